/-! the active region, the target, moving (printed by wip/tools/cls5.py) -/
set_option maxHeartbeats 4000000 in
theorem k_X2_activeWithRoom {G : mG} {l : Launch} {z : Nat} {ρ : Nat → Nat} {μ : mM} {A : rS} {P Gs : Nat → Prop} {cy : Int} {n : Int} (hc : CR A P cy μ) (hK : KK A P Gs) (hn : 2 ≤ n ∧ n ≤ 22) : MZ G l yX2_activeWithRoom cX2_activeWithRoom 2 (some (.object "ForwardHeap$Region")) 1 24 z ρ [.ref (ρ 2), .int (iv n)] μ (cR (some (va_rf ((rref (rWith (rHas A n) 1)).map ρ))) (rHas A n) P cy μ z) := by
  refine MZ.of (by decide) (by simp [Value.category]) (Nat.le_of_ble_eq_true rfl) (Nat.le_of_ble_eq_true rfl) ?_
  intro p e s m args below meth c ls H locs hC hx hb hr hlk X hL
  obtain ⟨h1, h2, h3, h4, h5, h6, h7, h8, hcy0, hcy1⟩ := id hc
  obtain ⟨⟨f00, f01, f02⟩, ⟨f10, f11, f12⟩, ⟨f20, f21, f22⟩, ⟨f30, f40, f50⟩, frr, foo⟩ := id h1
  obtain ⟨g1, g3, g4, g5, g6, g7⟩ := id h2
  refine m_aload_n hx hb hL dX2_activeWithRoom_0 rfl ?_
  have hop := h4.1
  by_cases ha : rWith A 1 = -1
  · rw [ha, rref_n] at hop
    refine c_getn hC X FX2_30 f20 rfl hop dX2_activeWithRoom_1 ?_
    refine lv_ifnullN (tgt := 31) hx hb dX2_activeWithRoom_4 (by decide) ?_
    refine m_aload_n hx hb hL dX2_activeWithRoom_31 rfl ?_
    refine c_getn hC X FX2_30 f20 rfl hop dX2_activeWithRoom_32 ?_
    refine lv_ifnonnullN hx hb dX2_activeWithRoom_35 ?_
    have hB : rHas1 A n = A := by unfold rHas1; rw [if_neg (fun w => w.1 ha)]
    have hcB : CR (rHas1 A n) P cy μ := by rw [hB]; exact hc
    have hfr := cfr.rf μ
    have hno : ¬ (rWith A 1 ≠ -1 ∧ A 4 (rWith A 1).toNat + n ≤ 128) := fun w => w.1 ha
    obtain ⟨hKB, hB1⟩ := has1_KK hK hno
    have hr1 : rWith (rHas1 A n) 1 = -1 := rWith_isn hB1
    have hE : rHas A n = rHas2 (rHas1 A n) := by unfold rHas; rw [if_neg hno]
    clear hB
    have hc := hcB
    obtain ⟨h1, h2, h3, h4, h5, h6, h7, h8, hcy0, hcy1⟩ := id hc
    obtain ⟨⟨f00, f01, f02⟩, ⟨f10, f11, f12⟩, ⟨f20, f21, f22⟩, ⟨f30, f40, f50⟩, frr, foo⟩ := id h1
    obtain ⟨g1, g3, g4, g5, g6, g7⟩ := id h2
    by_cases hfz : rWith (rHas1 A n) 0 = -1
    · refine m_aload_n hx hb hL dX2_activeWithRoom_38 rfl ?_
      refine m_aload_n hx hb hL dX2_activeWithRoom_39 rfl ?_
      refine c_callV hC X (k_X2_leastFree h1 (fun r hr => (h6 r hr).1) hKB.1.1) VX2_38 f20 rfl ⟨by decide, by decide⟩ ⟨by decide, by decide⟩ hL.1 rfl (Nat.le_of_ble_eq_true rfl) dX2_activeWithRoom_40 (fun v40 μ40 z40 H locs hp X => ?_)
      obtain ⟨hv_, hm_, hz_⟩ := hp
      rw [hfz, rref_n] at hv_
      have hv_ : v40 = some .null := hv_
      have hm_ := hm_.symm
      have hz_ := hz_.symm
      subst hv_
      subst hm_
      subst hz_
      refine c_putn hC X FwX2_30 f20 rfl (by decide) dX2_activeWithRoom_43 (fun H locs X => ?_)
      refine m_aload_n hx hb hL dX2_activeWithRoom_46 rfl ?_
      refine c_getn hC X FX2_30 f20 rfl (by simp [mi_I, mi_Q, mq_I, mq_Q]) dX2_activeWithRoom_47 ?_
      refine lv_ifnullN (tgt := 61) hx hb dX2_activeWithRoom_50 (by decide) ?_
      refine m_aload_n hx hb hL dX2_activeWithRoom_61 rfl ?_
      refine c_getn hC X FX2_30 f20 rfl (by simp [mi_I, mi_Q, mq_I, mq_Q]) dX2_activeWithRoom_62 ?_
      have hE2 : rHas A n = rHas1 A n := by rw [hE]; unfold rHas2; rw [if_pos hfz]
      exact c_aretn hC X hr hlk ⟨by rw [hE2, hr1]; rfl, rfl, by rw [hE2, setQ_self (by rw [h4.1, hr1]; rfl)]; exact hc, hfr.Q (cad_f (by decide)) 2 _⟩ dX2_activeWithRoom_65
    · have hwf := rWith_some hfz
      obtain ⟨r1, r2, r3, r4, r5⟩ := frr (rWith (rHas1 A n) 0).toNat (by unfold RN; omega)
      refine m_aload_n hx hb hL dX2_activeWithRoom_38 rfl ?_
      refine m_aload_n hx hb hL dX2_activeWithRoom_39 rfl ?_
      refine c_callV hC X (k_X2_leastFree h1 (fun r hr => (h6 r hr).1) hKB.1.1) VX2_38 f20 rfl ⟨by decide, by decide⟩ ⟨by decide, by decide⟩ hL.1 rfl (Nat.le_of_ble_eq_true rfl) dX2_activeWithRoom_40 (fun v40 μ40 z40 H locs hp X => ?_)
      obtain ⟨hv_, hm_, hz_⟩ := hp
      rw [rref_s hfz] at hv_
      have hv_ : v40 = some (.ref (ρ (aRg (rWith (rHas1 A n) 0).toNat))) := hv_
      have hm_ := hm_.symm
      have hz_ := hz_.symm
      subst hv_
      subst hm_
      subst hz_
      refine c_putr (b := aRg (rWith (rHas1 A n) 0).toNat) hC X FwX2_30 f20 rfl (by decide) r2 rfl dX2_activeWithRoom_43 (fun H locs X => ?_)
      refine m_aload_n hx hb hL dX2_activeWithRoom_46 rfl ?_
      refine m_getr (b := aRg (rWith (rHas1 A n) 0).toNat) hC X FX2_30 f20 rfl (by simp [mi_I, mi_Q, mq_I, mq_Q]) dX2_activeWithRoom_47 ?_
      refine lv_ifnull hx hb dX2_activeWithRoom_50 ?_
      refine m_aload_n hx hb hL dX2_activeWithRoom_53 rfl ?_
      refine m_getr (b := aRg (rWith (rHas1 A n) 0).toNat) hC X FX2_30 f20 rfl (by simp [mi_I, mi_Q, mq_I, mq_Q]) dX2_activeWithRoom_54 ?_
      refine lv_iconst (v := iv 1) hx hb dX2_activeWithRoom_57 rfl ?_
      refine c_puti (x := 1) hC X FwX2_26 r2 rfl dX2_activeWithRoom_58 (fun H locs X => ?_)
      refine m_aload_n hx hb hL dX2_activeWithRoom_61 rfl ?_
      refine m_getr (b := aRg (rWith (rHas1 A n) 0).toNat) hC X FX2_30 f20 rfl (by simp [mi_I, mi_Q, mq_I, mq_Q]) dX2_activeWithRoom_62 ?_
      have hE2 : rHas A n = up (rHas1 A n) 3 (rWith (rHas1 A n) 0).toNat 1 := by rw [hE]; unfold rHas2; rw [if_neg hfz]
      exact c_aretr hC X hr hlk ⟨by rw [hE2, new_w hKB.1.1 (by decide) hr1 hfz, rref_s hfz]; rfl, rfl, by rw [hE2]; exact act_CR hKB.1.1 hc hr1 hfz, (hfr.Q (cad_f (by decide)) 2 _).I (cad_r _) 2 _⟩ dX2_activeWithRoom_65
  · rw [rref_s ha] at hop
    have hwha := rWith_some ha
    have hrha := hK.1.1.b4 (rWith A 1).toNat
    have hnha : (rWith A 1).toNat < RN A := by unfold RN; omega
    obtain ⟨r1, r2, r3, r4, r5⟩ := frr (rWith A 1).toNat hnha
    have ru := (h6 (rWith A 1).toNat hnha).2.1
    refine m_getr (b := aRg (rWith A 1).toNat) hC X FX2_30 f20 rfl hop dX2_activeWithRoom_1 ?_
    refine lv_ifnull hx hb dX2_activeWithRoom_4 ?_
    refine m_aload_n hx hb hL dX2_activeWithRoom_7 rfl ?_
    refine m_getr (b := aRg (rWith A 1).toNat) hC X FX2_30 f20 rfl hop dX2_activeWithRoom_8 ?_
    refine m_iload_n hx hb hL dX2_activeWithRoom_11 rfl ?_
    refine c_callV hC X (k_X3_hasRoom r2 ru (by omega) (by omega)) VX2_34 r2 rfl ⟨by decide, by decide⟩ ⟨by decide, by decide⟩ hL.1 rfl (Nat.le_of_ble_eq_true rfl) dX2_activeWithRoom_12 (fun v12 μ12 z12 H locs hp X => ?_)
    obtain ⟨rfl, hm_, hz_⟩ := hp
    have hm_ := hm_.symm
    have hz_ := hz_.symm
    subst hm_
    subst hz_
    by_cases hfit : A 4 (rWith A 1).toNat + n ≤ 128
    · rw [bZ_t hfit]
      refine m_if_ne (tgt := 31) hx hb dX2_activeWithRoom_15 (by decide) (by omega) (fun c15 => ?_) (fun c15 => absurd c15 (by omega))
      refine m_aload_n hx hb hL dX2_activeWithRoom_31 rfl ?_
      refine m_getr (b := aRg (rWith A 1).toNat) hC X FX2_30 f20 rfl hop dX2_activeWithRoom_32 ?_
      refine lv_ifnonnull (tgt := 61) hx hb dX2_activeWithRoom_35 (by decide) ?_
      refine m_aload_n hx hb hL dX2_activeWithRoom_61 rfl ?_
      refine m_getr (b := aRg (rWith A 1).toNat) hC X FX2_30 f20 rfl hop dX2_activeWithRoom_62 ?_
      have hE : rHas A n = A := by unfold rHas; rw [if_pos ⟨ha, hfit⟩]
      exact c_aretr hC X hr hlk ⟨by rw [hE, rref_s ha]; rfl, rfl, by rw [hE]; exact hc, cfr.rf μ⟩ dX2_activeWithRoom_65
    · rw [bZ_f hfit]
      refine m_if_ne (tgt := 31) hx hb dX2_activeWithRoom_15 (by decide) (by omega) (fun c15 => absurd c15 (by omega)) (fun c15 => ?_)
      refine m_aload_n hx hb hL dX2_activeWithRoom_18 rfl ?_
      refine m_getr (b := aRg (rWith A 1).toNat) hC X FX2_30 f20 rfl hop dX2_activeWithRoom_19 ?_
      refine lv_iconst (v := iv 3) hx hb dX2_activeWithRoom_22 rfl ?_
      refine c_puti (x := 3) hC X FwX2_26 r2 rfl dX2_activeWithRoom_23 (fun H locs X => ?_)
      refine m_aload_n hx hb hL dX2_activeWithRoom_26 rfl ?_
      refine lv_null hx hb dX2_activeWithRoom_27 ?_
      refine c_putn hC X FwX2_30 f20 rfl (by decide) dX2_activeWithRoom_28 (fun H locs X => ?_)
      refine m_aload_n hx hb hL dX2_activeWithRoom_31 rfl ?_
      refine c_getn hC X FX2_30 f20 rfl (by simp [mi_I, mi_Q, mq_I, mq_Q]) dX2_activeWithRoom_32 ?_
      refine lv_ifnonnullN hx hb dX2_activeWithRoom_35 ?_
      have hB : rHas1 A n = up A 3 (rWith A 1).toNat 3 := by unfold rHas1; rw [if_pos ⟨ha, by omega⟩]
      have hcB : CR (rHas1 A n) P cy (setQ (setI μ (aRg (rWith A 1).toNat) 2 (iv 3)) 2 2 none) := by rw [hB]; exact ca_CR hK hc ha
      have hfr := ((cfr.rf μ).I (cad_r (rWith A 1).toNat) 2 (iv 3)).Q (cad_f (by decide : 2 < 6)) 2 none
      have hno : ¬ (rWith A 1 ≠ -1 ∧ A 4 (rWith A 1).toNat + n ≤ 128) := fun w => hfit w.2
      obtain ⟨hKB, hB1⟩ := has1_KK hK hno
      have hr1 : rWith (rHas1 A n) 1 = -1 := rWith_isn hB1
      have hE : rHas A n = rHas2 (rHas1 A n) := by unfold rHas; rw [if_neg hno]
      clear hB
      have hc := hcB
      obtain ⟨h1, h2, h3, h4, h5, h6, h7, h8, hcy0, hcy1⟩ := id hc
      obtain ⟨⟨f00, f01, f02⟩, ⟨f10, f11, f12⟩, ⟨f20, f21, f22⟩, ⟨f30, f40, f50⟩, frr, foo⟩ := id h1
      obtain ⟨g1, g3, g4, g5, g6, g7⟩ := id h2
      by_cases hfz : rWith (rHas1 A n) 0 = -1
      · refine m_aload_n hx hb hL dX2_activeWithRoom_38 rfl ?_
        refine m_aload_n hx hb hL dX2_activeWithRoom_39 rfl ?_
        refine c_callV hC X (k_X2_leastFree h1 (fun r hr => (h6 r hr).1) hKB.1.1) VX2_38 f20 rfl ⟨by decide, by decide⟩ ⟨by decide, by decide⟩ hL.1 rfl (Nat.le_of_ble_eq_true rfl) dX2_activeWithRoom_40 (fun v40 μ40 z40 H locs hp X => ?_)
        obtain ⟨hv_, hm_, hz_⟩ := hp
        rw [hfz, rref_n] at hv_
        have hv_ : v40 = some .null := hv_
        have hm_ := hm_.symm
        have hz_ := hz_.symm
        subst hv_
        subst hm_
        subst hz_
        refine c_putn hC X FwX2_30 f20 rfl (by decide) dX2_activeWithRoom_43 (fun H locs X => ?_)
        refine m_aload_n hx hb hL dX2_activeWithRoom_46 rfl ?_
        refine c_getn hC X FX2_30 f20 rfl (by simp [mi_I, mi_Q, mq_I, mq_Q]) dX2_activeWithRoom_47 ?_
        refine lv_ifnullN (tgt := 61) hx hb dX2_activeWithRoom_50 (by decide) ?_
        refine m_aload_n hx hb hL dX2_activeWithRoom_61 rfl ?_
        refine c_getn hC X FX2_30 f20 rfl (by simp [mi_I, mi_Q, mq_I, mq_Q]) dX2_activeWithRoom_62 ?_
        have hE2 : rHas A n = rHas1 A n := by rw [hE]; unfold rHas2; rw [if_pos hfz]
        exact c_aretn hC X hr hlk ⟨by rw [hE2, hr1]; rfl, rfl, by rw [hE2, setQ_self (by rw [h4.1, hr1]; rfl)]; exact hc, hfr.Q (cad_f (by decide)) 2 _⟩ dX2_activeWithRoom_65
      · have hwf := rWith_some hfz
        obtain ⟨r1, r2, r3, r4, r5⟩ := frr (rWith (rHas1 A n) 0).toNat (by unfold RN; omega)
        refine m_aload_n hx hb hL dX2_activeWithRoom_38 rfl ?_
        refine m_aload_n hx hb hL dX2_activeWithRoom_39 rfl ?_
        refine c_callV hC X (k_X2_leastFree h1 (fun r hr => (h6 r hr).1) hKB.1.1) VX2_38 f20 rfl ⟨by decide, by decide⟩ ⟨by decide, by decide⟩ hL.1 rfl (Nat.le_of_ble_eq_true rfl) dX2_activeWithRoom_40 (fun v40 μ40 z40 H locs hp X => ?_)
        obtain ⟨hv_, hm_, hz_⟩ := hp
        rw [rref_s hfz] at hv_
        have hv_ : v40 = some (.ref (ρ (aRg (rWith (rHas1 A n) 0).toNat))) := hv_
        have hm_ := hm_.symm
        have hz_ := hz_.symm
        subst hv_
        subst hm_
        subst hz_
        refine c_putr (b := aRg (rWith (rHas1 A n) 0).toNat) hC X FwX2_30 f20 rfl (by decide) r2 rfl dX2_activeWithRoom_43 (fun H locs X => ?_)
        refine m_aload_n hx hb hL dX2_activeWithRoom_46 rfl ?_
        refine m_getr (b := aRg (rWith (rHas1 A n) 0).toNat) hC X FX2_30 f20 rfl (by simp [mi_I, mi_Q, mq_I, mq_Q]) dX2_activeWithRoom_47 ?_
        refine lv_ifnull hx hb dX2_activeWithRoom_50 ?_
        refine m_aload_n hx hb hL dX2_activeWithRoom_53 rfl ?_
        refine m_getr (b := aRg (rWith (rHas1 A n) 0).toNat) hC X FX2_30 f20 rfl (by simp [mi_I, mi_Q, mq_I, mq_Q]) dX2_activeWithRoom_54 ?_
        refine lv_iconst (v := iv 1) hx hb dX2_activeWithRoom_57 rfl ?_
        refine c_puti (x := 1) hC X FwX2_26 r2 rfl dX2_activeWithRoom_58 (fun H locs X => ?_)
        refine m_aload_n hx hb hL dX2_activeWithRoom_61 rfl ?_
        refine m_getr (b := aRg (rWith (rHas1 A n) 0).toNat) hC X FX2_30 f20 rfl (by simp [mi_I, mi_Q, mq_I, mq_Q]) dX2_activeWithRoom_62 ?_
        have hE2 : rHas A n = up (rHas1 A n) 3 (rWith (rHas1 A n) 0).toNat 1 := by rw [hE]; unfold rHas2; rw [if_neg hfz]
        exact c_aretr hC X hr hlk ⟨by rw [hE2, new_w hKB.1.1 (by decide) hr1 hfz, rref_s hfz]; rfl, rfl, by rw [hE2]; exact act_CR hKB.1.1 hc hr1 hfz, (hfr.Q (cad_f (by decide)) 2 _).I (cad_r _) 2 _⟩ dX2_activeWithRoom_65

set_option maxHeartbeats 4000000 in
theorem k_X2_targetWithRoom {G : mG} {l : Launch} {z : Nat} {ρ : Nat → Nat} {μ : mM} {A : rS} {P Gs : Nat → Prop} {cy : Int} {n : Int} (hc : CR A P cy μ) (hK : KK A P Gs) (hn : 2 ≤ n ∧ n ≤ 22) : MZ G l yX2_targetWithRoom cX2_targetWithRoom 3 (some (.object "ForwardHeap$Region")) 1 24 z ρ [.ref (ρ 2), .int (iv n)] μ (cR (some (va_rf ((rref (rTgV A n)).map ρ))) (rTg A n) P cy μ z) := by
  refine MZ.of (by decide) (by simp [Value.category]) (Nat.le_of_ble_eq_true rfl) (Nat.le_of_ble_eq_true rfl) ?_
  intro p e s m args below meth c ls H locs hC hx hb hr hlk X hL
  obtain ⟨h1, h2, h3, h4, h5, h6, h7, h8, hcy0, hcy1⟩ := id hc
  obtain ⟨⟨f00, f01, f02⟩, ⟨f10, f11, f12⟩, ⟨f20, f21, f22⟩, ⟨f30, f40, f50⟩, frr, foo⟩ := id h1
  obtain ⟨g1, g3, g4, g5, g6, g7⟩ := id h2
  refine m_aload_n hx hb hL dX2_targetWithRoom_0 rfl ?_
  have hop := h4.2
  by_cases ht : rWith A 2 = -1
  · rw [ht, rref_n] at hop
    refine c_getn hC X FX2_42 f20 rfl hop dX2_targetWithRoom_1 ?_
    refine lv_ifnullN (tgt := 23) hx hb dX2_targetWithRoom_4 (by decide) ?_
    have hno : ¬ (rWith A 2 ≠ -1 ∧ A 4 (rWith A 2).toNat + n ≤ 128) := (fun w => w.1 ht)
    have hV : rTgV A n = rWith A 0 := by unfold rTgV; rw [if_neg hno]
    by_cases hfz : rWith A 0 = -1
    · refine m_aload_n hx hb hL dX2_targetWithRoom_23 rfl ?_
      refine c_callV hC X (k_X2_leastFree h1 (fun r hr => (h6 r hr).1) hK.1.1) VX2_38 f20 rfl ⟨by decide, by decide⟩ ⟨by decide, by decide⟩ hL.1 rfl (Nat.le_of_ble_eq_true rfl) dX2_targetWithRoom_24 (fun v24 μ24 z24 H locs hp X => ?_)
      obtain ⟨hv_, hm_, hz_⟩ := hp
      rw [hfz, rref_n] at hv_
      have hv_ : v24 = some .null := hv_
      have hm_ := hm_.symm
      have hz_ := hz_.symm
      subst hv_
      subst hm_
      subst hz_
      refine c_astore_nn hx hb hL dX2_targetWithRoom_27 (Nat.le_of_ble_eq_true rfl) (fun ls hL => ?_)
      refine m_aload_nq (x := none) hx hb hL dX2_targetWithRoom_28 rfl ?_
      refine lv_ifnullN (tgt := 46) hx hb dX2_targetWithRoom_29 (by decide) ?_
      refine m_aload_nq (x := none) hx hb hL dX2_targetWithRoom_46 rfl ?_
      exact c_aretn hC X hr hlk ⟨by rw [hV, hfz]; rfl, rfl, by unfold rTg; rw [if_neg hno, if_pos hfz]; exact hc, cfr.rf μ⟩ dX2_targetWithRoom_47
    · have hwf := rWith_some hfz
      obtain ⟨g1_, g2_, g3_, g4_, g5_⟩ := frr (rWith A 0).toNat (by unfold RN; omega)
      refine m_aload_n hx hb hL dX2_targetWithRoom_23 rfl ?_
      refine c_callV hC X (k_X2_leastFree h1 (fun r hr => (h6 r hr).1) hK.1.1) VX2_38 f20 rfl ⟨by decide, by decide⟩ ⟨by decide, by decide⟩ hL.1 rfl (Nat.le_of_ble_eq_true rfl) dX2_targetWithRoom_24 (fun v24 μ24 z24 H locs hp X => ?_)
      obtain ⟨hv_, hm_, hz_⟩ := hp
      rw [rref_s hfz] at hv_
      have hv_ : v24 = some (.ref (ρ (aRg (rWith A 0).toNat))) := hv_
      have hm_ := hm_.symm
      have hz_ := hz_.symm
      subst hv_
      subst hm_
      subst hz_
      refine c_astore_nr hx hb hL dX2_targetWithRoom_27 (Nat.le_of_ble_eq_true rfl) (fun ls hL => ?_)
      refine m_aload_n hx hb hL dX2_targetWithRoom_28 rfl ?_
      refine lv_ifnull hx hb dX2_targetWithRoom_29 ?_
      refine m_aload_n hx hb hL dX2_targetWithRoom_32 rfl ?_
      refine c_callV hC X (k_X2_closeTarget_n f20 hop) VX2_45 f20 rfl ⟨by decide, by decide⟩ ⟨by decide, by decide⟩ hL.1 rfl (Nat.le_of_ble_eq_true rfl) dX2_targetWithRoom_33 (fun v33 μ33 z33 H locs hp X => ?_)
      obtain ⟨rfl, hm_, hz_⟩ := hp
      have hm_ := hm_.symm
      have hz_ := hz_.symm
      subst hm_
      subst hz_
      refine m_aload_n hx hb hL dX2_targetWithRoom_36 rfl ?_
      refine lv_iconst (v := iv 2) hx hb dX2_targetWithRoom_37 rfl ?_
      refine c_puti (x := 2) hC X FwX2_26 g2_ rfl dX2_targetWithRoom_38 (fun H locs X => ?_)
      refine m_aload_n hx hb hL dX2_targetWithRoom_41 rfl ?_
      refine m_aload_n hx hb hL dX2_targetWithRoom_42 rfl ?_
      refine c_putr (b := aRg (rWith A 0).toNat) hC X FwX2_42 f20 rfl (by decide) g2_ rfl dX2_targetWithRoom_43 (fun H locs X => ?_)
      refine m_aload_n hx hb hL dX2_targetWithRoom_46 rfl ?_
      exact c_aretr hC X hr hlk ⟨by rw [hV, rref_s hfz]; rfl, rfl, by unfold rTg; rw [if_neg hno, if_neg hfz, if_pos ht]; exact tg_CR hK.1.1 (hK.2.2.1.1 _ hwf.2.2) hc ht hfz, ((cfr.rf μ).I (cad_r _) 2 _).Q (cad_f (by decide)) 3 _⟩ dX2_targetWithRoom_47
  · rw [rref_s ht] at hop
    have hwht := rWith_some ht
    have hrht := hK.1.1.b4 (rWith A 2).toNat
    have hnht : (rWith A 2).toNat < RN A := by unfold RN; omega
    obtain ⟨r1, r2, r3, r4, r5⟩ := frr (rWith A 2).toNat hnht
    have ru := (h6 (rWith A 2).toNat hnht).2.1
    refine m_getr (b := aRg (rWith A 2).toNat) hC X FX2_42 f20 rfl hop dX2_targetWithRoom_1 ?_
    refine lv_ifnull hx hb dX2_targetWithRoom_4 ?_
    refine m_aload_n hx hb hL dX2_targetWithRoom_7 rfl ?_
    refine m_getr (b := aRg (rWith A 2).toNat) hC X FX2_42 f20 rfl hop dX2_targetWithRoom_8 ?_
    refine m_iload_n hx hb hL dX2_targetWithRoom_11 rfl ?_
    refine c_callV hC X (k_X3_hasRoom r2 ru (by omega) (by omega)) VX2_34 r2 rfl ⟨by decide, by decide⟩ ⟨by decide, by decide⟩ hL.1 rfl (Nat.le_of_ble_eq_true rfl) dX2_targetWithRoom_12 (fun v12 μ12 z12 H locs hp X => ?_)
    obtain ⟨rfl, hm_, hz_⟩ := hp
    have hm_ := hm_.symm
    have hz_ := hz_.symm
    subst hm_
    subst hz_
    by_cases hfit : A 4 (rWith A 2).toNat + n ≤ 128
    · rw [bZ_t hfit]
      refine m_if_eq (tgt := 23) hx hb dX2_targetWithRoom_15 (by decide) (by omega) (fun c15 => absurd c15 (by omega)) (fun c15 => ?_)
      refine m_aload_n hx hb hL dX2_targetWithRoom_18 rfl ?_
      refine m_getr (b := aRg (rWith A 2).toNat) hC X FX2_42 f20 rfl hop dX2_targetWithRoom_19 ?_
      exact c_aretr hC X hr hlk ⟨by unfold rTgV; rw [if_pos ⟨ht, hfit⟩, rref_s ht]; rfl, rfl, by unfold rTg; rw [if_pos ⟨ht, hfit⟩]; exact hc, cfr.rf μ⟩ dX2_targetWithRoom_22
    · rw [bZ_f hfit]
      refine m_if_eq (tgt := 23) hx hb dX2_targetWithRoom_15 (by decide) (by omega) (fun c15 => ?_) (fun c15 => absurd c15 (by omega))
      have hno : ¬ (rWith A 2 ≠ -1 ∧ A 4 (rWith A 2).toNat + n ≤ 128) := (fun w => hfit w.2)
      have hV : rTgV A n = rWith A 0 := by unfold rTgV; rw [if_neg hno]
      by_cases hfz : rWith A 0 = -1
      · refine m_aload_n hx hb hL dX2_targetWithRoom_23 rfl ?_
        refine c_callV hC X (k_X2_leastFree h1 (fun r hr => (h6 r hr).1) hK.1.1) VX2_38 f20 rfl ⟨by decide, by decide⟩ ⟨by decide, by decide⟩ hL.1 rfl (Nat.le_of_ble_eq_true rfl) dX2_targetWithRoom_24 (fun v24 μ24 z24 H locs hp X => ?_)
        obtain ⟨hv_, hm_, hz_⟩ := hp
        rw [hfz, rref_n] at hv_
        have hv_ : v24 = some .null := hv_
        have hm_ := hm_.symm
        have hz_ := hz_.symm
        subst hv_
        subst hm_
        subst hz_
        refine c_astore_nn hx hb hL dX2_targetWithRoom_27 (Nat.le_of_ble_eq_true rfl) (fun ls hL => ?_)
        refine m_aload_nq (x := none) hx hb hL dX2_targetWithRoom_28 rfl ?_
        refine lv_ifnullN (tgt := 46) hx hb dX2_targetWithRoom_29 (by decide) ?_
        refine m_aload_nq (x := none) hx hb hL dX2_targetWithRoom_46 rfl ?_
        exact c_aretn hC X hr hlk ⟨by rw [hV, hfz]; rfl, rfl, by unfold rTg; rw [if_neg hno, if_pos hfz]; exact hc, cfr.rf μ⟩ dX2_targetWithRoom_47
      · have hwf := rWith_some hfz
        obtain ⟨g1_, g2_, g3_, g4_, g5_⟩ := frr (rWith A 0).toNat (by unfold RN; omega)
        refine m_aload_n hx hb hL dX2_targetWithRoom_23 rfl ?_
        refine c_callV hC X (k_X2_leastFree h1 (fun r hr => (h6 r hr).1) hK.1.1) VX2_38 f20 rfl ⟨by decide, by decide⟩ ⟨by decide, by decide⟩ hL.1 rfl (Nat.le_of_ble_eq_true rfl) dX2_targetWithRoom_24 (fun v24 μ24 z24 H locs hp X => ?_)
        obtain ⟨hv_, hm_, hz_⟩ := hp
        rw [rref_s hfz] at hv_
        have hv_ : v24 = some (.ref (ρ (aRg (rWith A 0).toNat))) := hv_
        have hm_ := hm_.symm
        have hz_ := hz_.symm
        subst hv_
        subst hm_
        subst hz_
        refine c_astore_nr hx hb hL dX2_targetWithRoom_27 (Nat.le_of_ble_eq_true rfl) (fun ls hL => ?_)
        refine m_aload_n hx hb hL dX2_targetWithRoom_28 rfl ?_
        refine lv_ifnull hx hb dX2_targetWithRoom_29 ?_
        refine m_aload_n hx hb hL dX2_targetWithRoom_32 rfl ?_
        refine c_callV hC X (k_X2_closeTarget_s (t := aRg (rWith A 2).toNat) f20 r2 hop) VX2_45 f20 rfl ⟨by decide, by decide⟩ ⟨by decide, by decide⟩ hL.1 rfl (Nat.le_of_ble_eq_true rfl) dX2_targetWithRoom_33 (fun v33 μ33 z33 H locs hp X => ?_)
        obtain ⟨rfl, hm_, hz_⟩ := hp
        have hm_ := hm_.symm
        have hz_ := hz_.symm
        subst hm_
        subst hz_
        refine m_aload_n hx hb hL dX2_targetWithRoom_36 rfl ?_
        refine lv_iconst (v := iv 2) hx hb dX2_targetWithRoom_37 rfl ?_
        refine c_puti (x := 2) hC X FwX2_26 g2_ rfl dX2_targetWithRoom_38 (fun H locs X => ?_)
        refine m_aload_n hx hb hL dX2_targetWithRoom_41 rfl ?_
        refine m_aload_n hx hb hL dX2_targetWithRoom_42 rfl ?_
        refine c_putr (b := aRg (rWith A 0).toNat) hC X FwX2_42 f20 rfl (by decide) g2_ rfl dX2_targetWithRoom_43 (fun H locs X => ?_)
        refine m_aload_n hx hb hL dX2_targetWithRoom_46 rfl ?_
        have hC2 := ct_CR hK.2.2.1.2.2 hc ht
        have hw2 := rWith_some ht
        have k0 : rWith (up A 3 (rWith A 2).toNat 3) 0 = rWith A 0 := rWith_cg3 (up_k _ _ (by decide)) (fun r _ => by
          rw [up3_3]
          by_cases w : r = (rWith A 2).toNat
          · rw [if_pos w, w, hw2.2.2]; omega
          · rw [if_neg w])
        have k2 : rWith (up A 3 (rWith A 2).toNat 3) 2 = -1 := by
          have q := hC2.2.2.2.1.2
          rw [mq_eq] at q
          by_cases w : rWith (up A 3 (rWith A 2).toNat 3) 2 = -1
          · exact w
          · rw [rref_s w] at q; cases q
        have hF := tg_CR (hK.1.1.u3 (rWith A 2).toNat (by omega)) (by rw [k0, up_k _ _ (by decide)]; exact hK.2.2.1.1 _ hwf.2.2) hC2 k2 (by rw [k0]; exact hfz)
        rw [k0] at hF
        exact c_aretr hC X hr hlk ⟨by rw [hV, rref_s hfz]; rfl, rfl, by unfold rTg; rw [if_neg hno, if_neg hfz, if_neg ht]; exact hF, ((((cfr.rf μ).I (cad_r _) 2 _).Q (cad_f (by decide)) 3 _).I (cad_r _) 2 _).Q (cad_f (by decide)) 3 _⟩ dX2_targetWithRoom_47

set_option maxHeartbeats 4000000 in
theorem k_X0_moveOrFail {G : mG} {l : Launch} {z : Nat} {ρ : Nat → Nat} {μ : mM} {A : rS} {P Gs : Nat → Prop} {cy : Int} {o : Nat} (hc : CR A P cy μ) (hK : KK A P Gs) (h18 : A 18 0 = 2) (ho : o < nn A) (hPo : P o) (h34 : A 3 (A 7 o).toNat = 4) : MZ G l yX0_moveOrFail cX0_moveOrFail 4 none 2 46 z ρ [.ref (ρ 1), .ref (ρ (aOb o))] μ (cR none (rCarry A (o : Int)) P cy μ z) := by
  refine MZ.of (by decide) (by simp [Value.category]) (Nat.le_of_ble_eq_true rfl) (Nat.le_of_ble_eq_true rfl) ?_
  intro p e s m args below meth c ls H locs hC hx hb hr hlk X hL
  obtain ⟨h1, h2, h3, h4, h5, h6, h7, h8, hcy0, hcy1⟩ := id hc
  obtain ⟨⟨f00, f01, f02⟩, ⟨f10, f11, f12⟩, ⟨f20, f21, f22⟩, ⟨f30, f40, f50⟩, frr, foo⟩ := id h1
  obtain ⟨g1, g3, g4, g5, g6, g7⟩ := id h2
  obtain ⟨o1, o2, o3, o4⟩ := foo o ho
  obtain ⟨oh, oo, ⟨ov, os, osa, osb, osc⟩, ⟨ow, of, ofa, ofb, ofc⟩, oz⟩ := h8 o ho
  have ho9 := (hK.1.2.1 o ho).1
  have hb9 := hK.1.1.b9 o
  have ho7 := (hK.1.2.1 o ho).2
  have hb7 := hK.1.1.b7 o
  have hrn : (A 7 o).toNat < RN A := by unfold RN; omega
  refine m_aload_n hx hb hL dX0_moveOrFail_0 rfl ?_
  refine m_getr (b := aRg (A 7 o).toNat) hC X FX0_112 o1 rfl oh dX0_moveOrFail_1 ?_
  refine c_astore_nr hx hb hL dX0_moveOrFail_4 (Nat.le_of_ble_eq_true rfl) (fun ls hL => ?_)
  refine m_aload_n hx hb hL dX0_moveOrFail_5 rfl ?_
  refine m_getr (b := 2) hC X FX0_14 f10 rfl f11 dX0_moveOrFail_6 ?_
  refine m_aload_n hx hb hL dX0_moveOrFail_9 rfl ?_
  refine c_callV hC X (k_X1_words (f := aFd o) (n := (A 9 o - 2).toNat) o1 o2 o3) VX0_119 o1 rfl ⟨by decide, by decide⟩ ⟨by decide, by decide⟩ hL.1 rfl (Nat.le_of_ble_eq_true rfl) dX0_moveOrFail_10 (fun v10 μ10 z10 H locs hp X => ?_)
  obtain ⟨rfl, hm_, hz_⟩ := hp
  have hm_ := hm_.symm
  have hz_ := hz_.symm
  subst hm_
  subst hz_
  rw [show ((((A 9 o - 2).toNat : Nat) : Int) + 2) = A 9 o by omega]
  by_cases hfz : rTgV A (A 9 o) = -1
  · refine c_callV hC X (k_X2_targetWithRoom (n := A 9 o) hc hK (by omega)) VX0_123 f20 rfl ⟨by decide, by decide⟩ ⟨by decide, by decide⟩ hL.1 rfl (Nat.le_of_ble_eq_true rfl) dX0_moveOrFail_13 (fun v13 μ13 z13 H locs hp X => ?_)
    obtain ⟨hv_, hz_, hc2, hf2⟩ := hp
    rw [hfz, rref_n] at hv_
    have hv_ : v13 = some .null := hv_
    have hz_ := hz_.symm
    subst hv_
    subst hz_
    obtain ⟨hB, hCa⟩ := carry_f (A := A) (o := (o : Int)) hfz
    have hB : rTg A (A 9 o) = A := hB
    rw [hB] at hc2
    have hc := hc2
    obtain ⟨h1, h2, h3, h4, h5, h6, h7, h8, hcy0, hcy1⟩ := id hc
    obtain ⟨⟨f00, f01, f02⟩, ⟨f10, f11, f12⟩, ⟨f20, f21, f22⟩, ⟨f30, f40, f50⟩, frr, foo⟩ := id h1
    obtain ⟨g1, g3, g4, g5, g6, g7⟩ := id h2
    obtain ⟨o1, o2, o3, o4⟩ := foo o ho
    obtain ⟨oh, oo, ⟨ov, os, osa, osb, osc⟩, ⟨ow, of, ofa, ofb, ofc⟩, oz⟩ := h8 o ho
    obtain ⟨r1, r2, r3, r4, r5⟩ := frr (A 7 o).toNat hrn
    obtain ⟨rk, ru, ⟨rq, re, rea, reb⟩, rp, rd, rda, rdb, rdc⟩ := h6 (A 7 o).toNat hrn
    refine c_astore_nn hx hb hL dX0_moveOrFail_16 (Nat.le_of_ble_eq_true rfl) (fun ls hL => ?_)
    refine m_aload_nq (x := none) hx hb hL dX0_moveOrFail_17 rfl ?_
    refine lv_ifnonnullN hx hb dX0_moveOrFail_18 ?_
    refine m_aload_n hx hb hL dX0_moveOrFail_21 rfl ?_
    refine m_aload_n hx hb hL dX0_moveOrFail_22 rfl ?_
    refine c_geti (x := cy) hC X FX0_34 f10 rfl g4 dX0_moveOrFail_23 ?_
    refine c_puti (x := cy) hC X FwX0_116 o1 rfl dX0_moveOrFail_26 (fun H locs X => ?_)
    refine m_aload_n hx hb hL dX0_moveOrFail_29 rfl ?_
    refine lv_iconst (v := iv 1) hx hb dX0_moveOrFail_30 rfl ?_
    refine c_putz (x := 1) hC X FwX0_127 r2 rfl (by omega) dX0_moveOrFail_31 (fun H locs X => ?_)
    refine m_aload_n hx hb hL dX0_moveOrFail_34 rfl ?_
    refine lv_dup hx hb dX0_moveOrFail_35 rfl ?_
    refine c_geti (x := (A 21 0)) hC X FX0_131 f10 rfl (by rw [mi_I, if_neg (fun q => absurd q.2 (by decide)), mi_I, if_neg (fun q => absurd q.2 (by decide))]; exact g7) dX0_moveOrFail_36 ?_
    refine lv_iconst (v := iv 1) hx hb dX0_moveOrFail_39 rfl ?_
    refine m_iadd hx hb dX0_moveOrFail_40 ?_
    refine c_puti (x := ((A 21 0) + 1)) hC X FwX0_131 f10 rfl dX0_moveOrFail_41 (fun H locs X => ?_)
    exact m_vret hC X hr hlk ⟨rfl, rfl, by rw [hCa]; exact fail_CR hK.1.1 hc ho, hf2.tr ((((cfr.rf _).I (cad_o o) 5 _).I (cad_r _) 5 _).I (cad_f (by decide)) 7 _)⟩ dX0_moveOrFail_44
  · refine c_callV hC X (k_X2_targetWithRoom (n := A 9 o) hc hK (by omega)) VX0_123 f20 rfl ⟨by decide, by decide⟩ ⟨by decide, by decide⟩ hL.1 rfl (Nat.le_of_ble_eq_true rfl) dX0_moveOrFail_13 (fun v13 μ13 z13 H locs hp X => ?_)
    obtain ⟨hv_, hz_, hc2, hf2⟩ := hp
    rw [rref_s hfz] at hv_
    have hv_ : v13 = some (.ref (ρ (aRg (rTgV A (A 9 o)).toNat))) := hv_
    have hz_ := hz_.symm
    subst hv_
    subst hz_
    have hCa := carry_t (A := A) (o := (o : Int)) hfz
    have hCa : rCarry A (o : Int) = rInto (rTg A (A 9 o)) (o : Int) (rTgV A (A 9 o)) := hCa
    obtain ⟨hKB, hT, h4B⟩ := tg_KK (n := A 9 o) hK h18 (by omega)
    obtain ⟨t1, t2, t3, t4⟩ := hT hfz
    have e7 : rTg A (A 9 o) 7 o = A 7 o := tg_k 7 o (by decide) (by decide)
    have e8 : rTg A (A 9 o) 8 o = A 8 o := tg_k 8 o (by decide) (by decide)
    have e9 : rTg A (A 9 o) 9 o = A 9 o := tg_k 9 o (by decide) (by decide)
    have e1 : rTg A (A 9 o) 1 0 = A 1 0 := tg_k 1 0 (by decide) (by decide)
    have e6 : rTg A (A 9 o) 6 0 = A 6 0 := tg_k 6 0 (by decide) (by decide)
    generalize hBd : rTg A (A 9 o) = B at *
    have hc := hc2
    obtain ⟨h1, h2, h3, h4, h5, h6, h7, h8, hcy0, hcy1⟩ := id hc
    obtain ⟨⟨f00, f01, f02⟩, ⟨f10, f11, f12⟩, ⟨f20, f21, f22⟩, ⟨f30, f40, f50⟩, frr, foo⟩ := id h1
    obtain ⟨g1, g3, g4, g5, g6, g7⟩ := id h2
    have hoB : o < nn B := by unfold nn; rw [e6]; exact ho
    have hrB : (A 7 o).toNat < RN B := by unfold RN; rw [e1]; exact hrn
    have htB : (rTgV A (A 9 o)).toNat < RN B := by unfold RN; rw [e1]; omega
    obtain ⟨o1, o2, o3, o4⟩ := foo o hoB
    obtain ⟨oh, oo, ⟨ov, os, osa, osb, osc⟩, ⟨ow, of, ofa, ofb, ofc⟩, oz⟩ := h8 o hoB
    rw [e7] at oh
    rw [e8] at oo
    rw [e9] at o3
    obtain ⟨p1, p2, p3, p4, p5⟩ := frr (A 7 o).toNat hrB
    obtain ⟨w1, w2, w3, w4, w5⟩ := frr (rTgV A (A 9 o)).toNat htB
    have wu := (h6 (rTgV A (A 9 o)).toNat htB).2.1
    have b4t := hKB.1.1.b4 (rTgV A (A 9 o)).toNat
    have b8o := hK.1.1.b8 o
    have pl := (hK.2.2.2.2.1.1 o hPo).2.2
    have b4f := hK.1.1.b4 (A 7 o).toNat
    refine c_astore_nr hx hb hL dX0_moveOrFail_16 (Nat.le_of_ble_eq_true rfl) (fun ls hL => ?_)
    refine m_aload_n hx hb hL dX0_moveOrFail_17 rfl ?_
    refine lv_ifnonnull (tgt := 45) hx hb dX0_moveOrFail_18 (by decide) ?_
    refine m_aload_n hx hb hL dX0_moveOrFail_45 rfl ?_
    refine m_getr (b := aSt (A 7 o).toNat) hC X FX0_134 p2 rfl p3 dX0_moveOrFail_46 ?_
    refine m_aload_n hx hb hL dX0_moveOrFail_49 rfl ?_
    refine c_geti (x := (A 8 o)) hC X FX0_137 o1 rfl oo dX0_moveOrFail_50 ?_
    refine lv_null hx hb dX0_moveOrFail_53 ?_
    refine c_aastn (x := (A 8 o)) hC X p4 (by omega) (by omega) (by omega) dX0_moveOrFail_54 (fun H locs X => ?_)
    refine m_aload_n hx hb hL dX0_moveOrFail_55 rfl ?_
    refine m_aload_n hx hb hL dX0_moveOrFail_56 rfl ?_
    refine c_callV hC X (k_X3_append (r := aRg (rTgV A (A 9 o)).toNat) (o := aOb o) (q := aSt (rTgV A (A 9 o)).toNat) (f := aFd o) (n := (A 9 o - 2).toNat) (u := B 4 (rTgV A (A 9 o)).toNat) w2 o1 w4 (by rw [mq_ne (fun w => aOb_ne_aSt _ _ w.1)]; exact o2) o3 (by rw [mi_Q]; exact wu) (by rw [mq_ne (fun w => aRg_ne_aSt _ _ w.1)]; exact w3) (by omega)) VX0_140 w2 rfl ⟨by decide, by decide⟩ ⟨by decide, by decide⟩ hL.1 rfl (Nat.le_of_ble_eq_true rfl) dX0_moveOrFail_57 (fun v57 μ57 z57 H locs hp X => ?_)
    obtain ⟨rfl, hm_, hz_⟩ := hp
    have hm_ := hm_.symm
    have hz_ := hz_.symm
    subst hm_
    subst hz_
    rw [show B 4 (rTgV A (A 9 o)).toNat + ((((A 9 o - 2).toNat : Nat) : Int) + 2) = B 4 (rTgV A (A 9 o)).toNat + A 9 o by omega] at X
    refine m_aload_n hx hb hL dX0_moveOrFail_60 rfl ?_
    refine lv_dup hx hb dX0_moveOrFail_61 rfl ?_
    refine c_geti (x := (B 20 0)) hC X FX0_141 f10 rfl (by rw [mi_I, if_neg (fun q => absurd q.2 (by decide))]; exact g6) dX0_moveOrFail_62 ?_
    refine lv_iconst (v := iv 1) hx hb dX0_moveOrFail_65 rfl ?_
    refine m_iadd hx hb dX0_moveOrFail_66 ?_
    refine c_puti (x := ((B 20 0) + 1)) hC X FwX0_141 f10 rfl dX0_moveOrFail_67 (fun H locs X => ?_)
    have hF := into_CR (o := o) (t := (rTgV A (A 9 o)).toNat) hKB hc hPo (by omega) t3 (by rw [e7]; exact h4B _ h34) (by rw [e9]; omega)
    rw [e7, e8, e9, show (((rTgV A (A 9 o)).toNat : Nat) : Int) = rTgV A (A 9 o) by omega] at hF
    exact m_vret hC X hr hlk ⟨rfl, rfl, by rw [hCa]; exact hF, hf2.tr (((((((cfr.rf _).Q (cad_s _) _ _).Q (cad_o o) 2 _).I (cad_o o) 3 _).Q (cad_s _) _ _).I (cad_r _) 3 _).I (cad_f (by decide)) 6 _)⟩ dX0_moveOrFail_70

set_option maxHeartbeats 4000000 in
theorem k_X0_moveNext {G : mG} {l : Launch} {z : Nat} {ρ : Nat → Nat} {μ : mM} {A : rS} {P Gs : Nat → Prop} {cy : Int} (hc : CR A P cy μ) (hK : KK A P Gs) (h18 : A 18 0 = 2) : MZ G l yX0_moveNext cX0_moveNext 6 none 3 69 z ρ [.ref (ρ 1)] μ (cR none (rMoveOne A) P cy μ z) := by
  refine MZ.of (by decide) (by simp [Value.category]) (Nat.le_of_ble_eq_true rfl) (Nat.le_of_ble_eq_true rfl) ?_
  intro p e s m args below meth c ls H locs hC hx hb hr hlk X hL
  obtain ⟨h1, h2, h3, h4, h5, h6, h7, h8, hcy0, hcy1⟩ := id hc
  obtain ⟨⟨f00, f01, f02⟩, ⟨f10, f11, f12⟩, ⟨f20, f21, f22⟩, ⟨f30, f40, f50⟩, frr, foo⟩ := id h1
  obtain ⟨g1, g3, g4, g5, g6, g7⟩ := id h2
  have b1 := hK.1.1.b1 0
  have hRN : ((RN A : Nat) : Int) = A 1 0 := by unfold RN; omega
  refine m_aload_n hx hb hL dX0_moveNext_0 rfl ?_
  refine m_getr (b := 2) hC X FX0_14 f10 rfl f11 dX0_moveNext_1 ?_
  refine m_getr (b := 5) hC X FX0_86 f20 rfl f22 dX0_moveNext_4 ?_
  refine c_astore_nr hx hb hL dX0_moveNext_7 (Nat.le_of_ble_eq_true rfl) (fun ls hL => ?_)
  refine m_aload_n hx hb hL dX0_moveNext_8 rfl ?_
  refine c_alen hC X f50 (by decide) dX0_moveNext_9 ?_
  refine m_istore_n hx hb hL dX0_moveNext_10 (Nat.le_of_ble_eq_true rfl) (fun ls hL => ?_)
  refine lv_iconst (v := iv 0) hx hb dX0_moveNext_11 rfl ?_
  refine m_istore_n hx hb hL dX0_moveNext_12 (Nat.le_of_ble_eq_true rfl) (fun ls hL => ?_)
  have lp : ∀ (f : Nat) (i : Int) (μ1 : mM) (H : Heap) (locs : List Loc) (ls : Array Slot), CR A P cy μ1 → (∀ o, o < nn A → rToMove A (o : Int) = 1 → i ≤ A 7 o) → 0 ≤ i ∧ i ≤ A 1 0 → (f : Int) + i = 20 → cfr μ μ1 → mX G ρ (mA ρ μ z) s.heap μ1 z H locs → lq ls [some (.ref (ρ 1)), some (.ref (ρ 5)), some (.int (iv ((RN A : Nat) : Int))), some (.int (iv i)), none, none] → W p l e (rm 3 69 0 0) s m args below meth c H locs 0 0 (wQ G ρ μ z (cR none (rMoveOne A) P cy μ z) below args s 0 0) (F0 m 13 ls []) := by
    intro f
    induction f with
    | zero =>
      intro  i μ1 H locs ls hc hs h0 hf1 hfr X hL
      omega
    | succ f ih =>
      intro  i μ1 H locs ls hc hs h0 hf1 hfr X hL
      obtain ⟨h1, h2, h3, h4, h5, h6, h7, h8, hcy0, hcy1⟩ := id hc
      obtain ⟨⟨f00, f01, f02⟩, ⟨f10, f11, f12⟩, ⟨f20, f21, f22⟩, ⟨f30, f40, f50⟩, frr, foo⟩ := id h1
      obtain ⟨g1, g3, g4, g5, g6, g7⟩ := id h2
      refine m_iload_n hx hb hL dX0_moveNext_13 rfl ?_
      refine m_iload_n hx hb hL dX0_moveNext_14 rfl ?_
      refine m_icmp_ge (tgt := 65) hx hb dX0_moveNext_15 (by decide) (by omega) (by omega) (fun c15 => ?_) (fun c15 => ?_)
      · refine m_aload_n hx hb hL dX0_moveNext_65 rfl ?_
        refine lv_iconst (v := iv 3) hx hb dX0_moveNext_66 rfl ?_
        refine c_puti (x := 3) hC X FwX0_31 f10 rfl dX0_moveNext_67 (fun H locs X => ?_)
        refine m_aload_n hx hb hL dX0_moveNext_70 rfl ?_
        refine lv_iconst (v := iv 0) hx hb dX0_moveNext_71 rfl ?_
        refine c_puti (x := 0) hC X FwX0_109 f10 rfl dX0_moveNext_72 (fun H locs X => ?_)
        have hbst := bst_no hK.1.1 (fun q hq hm => by have w1 := hs q hq hm; have w2 := (hK.1.2.1 q hq).2; omega)
        exact m_vret hC X hr hlk ⟨rfl, rfl, by unfold rMoveOne; rw [if_pos hbst]; exact nu_CR (ph_CR hc), (hfr.I (cad_f (by decide)) 3 _).I (cad_f (by decide)) 5 _⟩ dX0_moveNext_75
      · refine m_aload_n hx hb hL dX0_moveNext_18 rfl ?_
        refine m_iload_n hx hb hL dX0_moveNext_19 rfl ?_
        have hrn : i.toNat < RN A := by omega
        obtain ⟨r1, r2, r3, r4, r5⟩ := frr i.toNat hrn
        obtain ⟨rk, ru, ⟨rq, re, rea, reb⟩, rp, rd, rda, rdb, rdc⟩ := h6 i.toNat hrn
        have rkb := hK.1.1.b3 i.toNat
        refine c_aaldr (x := i) hC X f50 (Or.inr rfl) (by omega) (by omega) (by omega) r1 dX0_moveNext_20 ?_
        refine c_astorer hx hb hL dX0_moveNext_21 (Nat.le_of_ble_eq_true rfl) (fun ls hL => ?_)
        refine m_aload hx hb hL dX0_moveNext_23 rfl ?_
        refine c_geti (x := (A 3 i.toNat)) hC X FX0_90 r2 rfl rk dX0_moveNext_25 ?_
        refine lv_iconst (v := iv 4) hx hb dX0_moveNext_28 rfl ?_
        refine m_icmp_ne (tgt := 44) hx hb dX0_moveNext_29 (by decide) (by omega) (by omega) (fun c29 => ?_) (fun c29 => ?_)
        · refine lv_null hx hb dX0_moveNext_44 ?_
          refine c_astoren hx hb hL dX0_moveNext_45 (Nat.le_of_ble_eq_true rfl) (fun ls hL => ?_)
          refine m_aloadq (x := none) hx hb hL dX0_moveNext_47 rfl ?_
          refine lv_ifnullN (tgt := 59) hx hb dX0_moveNext_49 (by decide) ?_
          refine m_iincv hx hb hL dX0_moveNext_59 rfl (fun ls hL => ?_)
          refine lv_goto (tgt := 13) hx hb dX0_moveNext_62 (by decide) ?_
          exact ih (i + 1) _ _ _ ls hc (fun q hq hm => by have w1 := hs q hq hm; have w2 := (toMoveN.mp hm).2.2; have w3 : A 7 q ≠ i := (fun e => c29 (by rw [e] at w2; exact w2)); omega) ⟨by omega, by omega⟩ (by omega) hfr X (lq_none 5 (lq_none 4 hL))
        · refine m_aload hx hb hL dX0_moveNext_32 rfl ?_
          refine m_aload_n hx hb hL dX0_moveNext_34 rfl ?_
          refine c_geti (x := cy) hC X FX0_34 f10 rfl g4 dX0_moveNext_35 ?_
          refine c_callV hC X (k_X3_nextToMove (r := i.toNat) hc hK hrn (by omega)) VX0_105 r2 rfl ⟨by decide, by decide⟩ ⟨by decide, by decide⟩ hL.1 rfl (Nat.le_of_ble_eq_true rfl) dX0_moveNext_38 (fun v38 μ38 z38 H locs hp X => ?_)
          obtain ⟨hz_, p9, hp0, hp1, hm_, hpm, hor⟩ := hp
          have hz_ := hz_.symm
          subst hz_
          have hc2 : CR A P cy μ38 := by rw [hm_]; exact psd_CR hc ⟨hp0, hp1⟩ hpm
          have hfr2 : cfr μ μ38 := by rw [hm_]; exact hfr.I (cad_r _) 4 _
          clear hm_
          rcases hor with ⟨rfl, hno⟩ | ⟨o, hon, rfl, hom, ho7, ho8⟩
          · refine lv_goto (tgt := 45) hx hb dX0_moveNext_41 (by decide) ?_
            refine c_astoren hx hb hL dX0_moveNext_45 (Nat.le_of_ble_eq_true rfl) (fun ls hL => ?_)
            refine m_aloadq (x := none) hx hb hL dX0_moveNext_47 rfl ?_
            refine lv_ifnullN (tgt := 59) hx hb dX0_moveNext_49 (by decide) ?_
            refine m_iincv hx hb hL dX0_moveNext_59 rfl (fun ls hL => ?_)
            refine lv_goto (tgt := 13) hx hb dX0_moveNext_62 (by decide) ?_
            exact ih (i + 1) _ _ _ ls hc2 (fun q hq hm => by have w1 := hs q hq hm; have w2 := hno q hq hm; omega) ⟨by omega, by omega⟩ (by omega) hfr2 X (lq_none 5 (lq_none 4 hL))
          · have hc := hc2
            have hfr := hfr2
            obtain ⟨h1, h2, h3, h4, h5, h6, h7, h8, hcy0, hcy1⟩ := id hc
            obtain ⟨⟨f00, f01, f02⟩, ⟨f10, f11, f12⟩, ⟨f20, f21, f22⟩, ⟨f30, f40, f50⟩, frr, foo⟩ := id h1
            obtain ⟨g1, g3, g4, g5, g6, g7⟩ := id h2
            refine lv_goto (tgt := 45) hx hb dX0_moveNext_41 (by decide) ?_
            refine c_astorer hx hb hL dX0_moveNext_45 (Nat.le_of_ble_eq_true rfl) (fun ls hL => ?_)
            refine m_aload hx hb hL dX0_moveNext_47 rfl ?_
            refine lv_ifnull hx hb dX0_moveNext_49 ?_
            refine m_aload_n hx hb hL dX0_moveNext_52 rfl ?_
            refine m_aload hx hb hL dX0_moveNext_53 rfl ?_
            refine c_callV hC X (k_X0_moveOrFail (o := o) hc hK h18 hon (mov_at hK hc.2.2.2.2.2.2.1 hon hom ho7).1 (toMoveN.mp hom).2.2) VX0_70 f10 rfl ⟨by decide, by decide⟩ ⟨by decide, by decide⟩ hL.1 rfl (Nat.le_of_ble_eq_true rfl) dX0_moveNext_55 (fun v55 μ55 z55 H locs hp X => ?_)
            obtain ⟨rfl, hz_, hc3, hf3⟩ := hp
            have hz_ := hz_.symm
            subst hz_
            have hbst := bst_is hK hon hom (fun q hq hm => ⟨by have := hs q hq hm; omega, fun e => by have := hpm q hq hm (by omega); omega⟩)
            exact m_vret hC X hr hlk ⟨rfl, rfl, by unfold rMoveOne; rw [hbst, if_neg (by omega)]; exact hc3, hfr.tr hf3⟩ dX0_moveNext_58
  exact lp 20 0 _ _ _ ls hc (fun o _ _ => (hK.1.1.b7 o).1) ⟨by omega, by omega⟩ (by omega) (cfr.rf μ) X hL

