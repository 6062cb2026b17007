/-! the public calls of the class, the rest (printed by wip/tools/cls8.py) -/
set_option maxHeartbeats 4000000 in
theorem k_X5_write {G : mG} {l : Launch} {z : Nat} {ρ : Nat → Nat} {μ : mM} {A : rS} {P Gs : Nat → Prop} {cy : Int} {r i f : Int} (hl : l.stackTraces = false) (hc : CR A P cy μ) (hK : KK A P Gs) (hr0 : -2147483648 ≤ r ∧ r ≤ 2147483647) (hi0 : -2147483648 ≤ i ∧ i ≤ 2147483647) (hf0 : -2147483648 ≤ f ∧ f ≤ 2147483647) : MX (Cond.code yX5_write cX5_write 6 (some .int)) G l yX5_write 8 132 4 24 z ρ [.ref (ρ 0), .int (iv r), .int (iv i), .int (iv f)] μ (yP (rHF A r f r i = 0) (cR (some (.int (iv (rWriteV A r i f)))) (rWrite A r i f) P cy μ z)) (xP (rHF A r f r i = 1) XT (rHF A r f r i = 2) μ z) := by
  refine MX.of (by decide) (by simp [Value.category]) (Nat.le_of_ble_eq_true rfl) (Nat.le_of_ble_eq_true rfl) ?_
  intro p e s m args below meth c ls H locs hC hx hb hr hlk hxt hxW hxZ X hL
  obtain ⟨h1, h2, h3, h4, h5, h6, h7, h8, hcy0, hcy1⟩ := id hc
  obtain ⟨⟨f00, f01, f02⟩, ⟨f10, f11, f12⟩, ⟨f20, f21, f22⟩, ⟨f30, f40, f50⟩, frr, foo⟩ := id h1
  obtain ⟨g1, g3, g4, g5, g6, g7⟩ := id h2
  refine m_iload_n hx hb hL dX5_write_0 rfl ?_
  refine x_callS hC hxW hxZ X (k_X5_checkRegister (k := f) hl hf0) VX5_27 rfl ⟨by decide, by decide⟩ ⟨by decide, by decide⟩ hL.1 rfl (Nat.le_of_ble_eq_true rfl) dX5_write_1 (fun E ce q μx zx H locs hpx X hce hcv hcl => ?_) (fun v1 μ1 z1 H locs hp X => ?_)
  · obtain ⟨h9, rfl, hzx⟩ := hpx
    have hn9 : ¬ rReg f := h9.elim (fun q => q.2) (fun q => q.2.elim)
    have hE9 : E = XI := h9.elim (fun q => q.1) (fun q => q.2.elim)
    exact x_out hxt hlk X hce hcv hcl ⟨Or.inl ⟨hE9, (by unfold rHF; rw [if_neg (fun w => hn9 w.2)])⟩, rfl, hzx⟩ (by decide) (by decide)
  · obtain ⟨hregf, rfl, hm_, hz_⟩ := hp
    have hm_ := hm_.symm
    have hz_ := hz_.symm
    subst hm_
    subst hz_
    refine m_aload_n hx hb hL dX5_write_4 rfl ?_
    refine m_iload_n hx hb hL dX5_write_5 rfl ?_
    refine x_callV hC hxW hxZ X (k_X5_objectIn (k := r) hl hc hK hr0) VX5_69 f00 rfl ⟨by decide, by decide⟩ ⟨by decide, by decide⟩ hL.1 rfl (Nat.le_of_ble_eq_true rfl) dX5_write_6 (fun E ce q μx zx H locs hpx X hce hcv hcl => ?_) (fun v6 μ6 z6 H locs hp X => ?_)
    · obtain ⟨h9, rfl, hzx⟩ := hpx
      exact x_out hxt hlk X hce hcv hcl ⟨h9.imp (fun q => ⟨q.1, (by unfold rHF; rw [if_neg (fun w => q.2 w.1)])⟩) (fun q => ⟨q.1, (by unfold rHF; rw [if_pos ⟨q.2.1, hregf⟩, if_pos q.2.2])⟩), rfl, hzx⟩ (by decide) (by decide)
    · obtain ⟨⟨hregr, hne⟩, rfl, hm_, hz_⟩ := hp
      have hm_ := hm_.symm
      have hz_ := hz_.symm
      subst hm_
      subst hz_
      obtain ⟨o, ho14, ho, hGo⟩ := reg_ob hK hregr hne
      rw [show (A 14 (r : Int).toNat).toNat = o by omega]
      obtain ⟨o1, o2, o3, o4⟩ := foo o ho
      obtain ⟨oh, oo, ⟨ov, os, osa, osb, osc⟩, ⟨ow, of, ofa, ofb, ofc⟩, oz⟩ := h8 o ho
      have ho9 := (hK.1.2.1 o ho).1
      have hb9 := hK.1.1.b9 o
      refine c_astorer hx hb hL dX5_write_9 (Nat.le_of_ble_eq_true rfl) (fun ls hL => ?_)
      refine m_aload hx hb hL dX5_write_11 rfl ?_
      refine m_iload_n hx hb hL dX5_write_13 rfl ?_
      refine x_callS hC hxW hxZ X (k_X5_checkField (o := aOb o) (f := aFd o) (n := (A 9 o - 2).toNat) (i := i) hl o1 o2 o3 (by omega) hi0) VX5_73 rfl ⟨by decide, by decide⟩ ⟨by decide, by decide⟩ hL.1 rfl (Nat.le_of_ble_eq_true rfl) dX5_write_14 (fun E ce q μx zx H locs hpx X hce hcv hcl => ?_) (fun v14 μ14 z14 H locs hp X => ?_)
      · obtain ⟨h9, rfl, hzx⟩ := hpx
        have hn9 : ¬ (0 ≤ i ∧ i < (((A 9 o - 2).toNat : Nat) : Int)) := h9.elim (fun q => q.2) (fun q => q.2.elim)
        have hE9 : E = XI := h9.elim (fun q => q.1) (fun q => q.2.elim)
        exact x_out hxt hlk X hce hcv hcl ⟨Or.inl ⟨hE9, (by unfold rHF; rw [if_pos ⟨hregr, hregf⟩, if_neg hne, ho14]; simp only [Int.toNat_natCast]; rw [if_neg (by omega)])⟩, rfl, hzx⟩ (by decide) (by decide)
      · obtain ⟨hfld, rfl, hm_, hz_⟩ := hp
        have hm_ := hm_.symm
        have hz_ := hz_.symm
        subst hm_
        subst hz_
        have hfl : 0 ≤ i ∧ i < A 9 o - 2 := by omega
        have hofl := oz (i : Int).toNat (by omega)
        have hfb := fld_ob (i := (i : Int).toNat) hK ho hGo (by omega)
        refine m_aload hx hb hL dX5_write_17 rfl ?_
        refine m_getr (b := aFd o) hC X FX5_77 o1 rfl o2 dX5_write_19 ?_
        refine m_iload_n hx hb hL dX5_write_22 rfl ?_
        have hophfv := hofl
        by_cases hfv : A 11 (21 * o + (i : Int).toNat) = -1
        · rw [hfv, oref_n] at hophfv
          refine c_aaldn (x := i) hC X o3 (Or.inl rfl) (by omega) (by omega) (by omega) hophfv dX5_write_23 ?_
          refine c_astoren hx hb hL dX5_write_24 (Nat.le_of_ble_eq_true rfl) (fun ls hL => ?_)
          refine m_aload_n hx hb hL dX5_write_26 rfl ?_
          refine m_getr (b := 1) hC X FX5_18 f00 rfl f01 dX5_write_27 ?_
          refine m_aload hx hb hL dX5_write_30 rfl ?_
          refine m_aloadq (x := none) hx hb hL dX5_write_32 rfl ?_
          refine c_callV hC X (k_X0_prepareWrite_n hc hK ho hGo) VX5_83 f10 rfl ⟨by decide, by decide⟩ ⟨by decide, by decide⟩ hL.1 rfl (Nat.le_of_ble_eq_true rfl) dX5_write_34 (fun v34 μ34 z34 H locs hp X => ?_)
          obtain ⟨rfl, hz_, hc2, hf2⟩ := hp
          have hz_ := hz_.symm
          subst hz_
          rw [← hfv] at hc2
          obtain ⟨hKB, -, hkB⟩ := prep_KK (b := A 11 (21 * o + (i : Int).toNat)) hK ho hGo ⟨hfb.1, hfb.2.1⟩ hfb.2.2
          obtain ⟨B, hBd⟩ : ∃ B, B = rPrep A (o : Int) (A 11 (21 * o + (i : Int).toNat)) := ⟨_, rfl⟩
          rw [← hBd] at hc2 hKB hkB
          have e9 : B 9 o = A 9 o := hkB 9 o (by decide) (by decide) (by decide) (by decide) (by decide) (by decide) (by decide) (by decide) (by decide) (by decide) (by decide)
          have e14 : ∀ j, B 14 j = A 14 j := fun j => hkB 14 j (by decide) (by decide) (by decide) (by decide) (by decide) (by decide) (by decide) (by decide) (by decide) (by decide) (by decide)
          have e10 : ∀ j, B 10 j = A 10 j := fun j => hkB 10 j (by decide) (by decide) (by decide) (by decide) (by decide) (by decide) (by decide) (by decide) (by decide) (by decide) (by decide)
          have e6 : B 6 0 = A 6 0 := hkB 6 0 (by decide) (by decide) (by decide) (by decide) (by decide) (by decide) (by decide) (by decide) (by decide) (by decide) (by decide)
          have hc := hc2
          obtain ⟨h1, h2, h3, h4, h5, h6, h7, h8, hcy0, hcy1⟩ := id hc
          obtain ⟨⟨f00, f01, f02⟩, ⟨f10, f11, f12⟩, ⟨f20, f21, f22⟩, ⟨f30, f40, f50⟩, frr, foo⟩ := id h1
          obtain ⟨g1, g3, g4, g5, g6, g7⟩ := id h2
          obtain ⟨u1, u2, u3, u4⟩ := foo o (by unfold nn; rw [e6]; exact ho)
          rw [e9] at u3
          refine m_aload hx hb hL dX5_write_37 rfl ?_
          refine m_getr (b := aFd o) hC X FX5_77 u1 rfl u2 dX5_write_39 ?_
          refine m_iload_n hx hb hL dX5_write_42 rfl ?_
          refine m_aload_n hx hb hL dX5_write_43 rfl ?_
          refine m_getr (b := 2) hC X FX5_26 f00 rfl f02 dX5_write_44 ?_
          refine m_getr (b := 4) hC X FX5_61 f20 rfl f21 dX5_write_47 ?_
          refine m_iload_n hx hb hL dX5_write_50 rfl ?_
          have hophreg := (by rw [← e14]; exact h3 (f : Int).toNat (by omega) : mq _ 4 (f : Int).toNat = oref (A 14 (f : Int).toNat))
          by_cases hreg : A 14 (f : Int).toNat = -1
          · rw [hreg, oref_n] at hophreg
            refine c_aaldn (x := f) hC X f40 (Or.inl rfl) (by omega) (by omega) (by omega) hophreg dX5_write_51 ?_
            refine c_aastn (x := i) hC X u3 (by omega) (by omega) (by omega) dX5_write_52 (fun H locs X => ?_)
            refine m_aloadq (x := none) hx hb hL dX5_write_53 rfl ?_
            refine c_callS hC X (k_X5_tagOf_n) VX5_80 rfl ⟨by decide, by decide⟩ ⟨by decide, by decide⟩ hL.1 rfl (Nat.le_of_ble_eq_true rfl) dX5_write_55 (fun v55 μ55 z55 H locs hp X => ?_)
            obtain ⟨rfl, hm_, hz_⟩ := hp
            have hm_ := hm_.symm
            have hz_ := hz_.symm
            subst hm_
            subst hz_
            rw [hBd] at hc hKB
            have hF := wr_CR (w := none) hKB.1.1 (hK.1.1.b9 o).2 hc hregr hregf ho14 hfl (by rw [hreg]; rfl)
            exact x_ret (Nat.le_of_ble_eq_true rfl) (Nat.le_of_ble_eq_true rfl) (m_iret hC X hr hlk ⟨rHF_is hregr hregf ho14 hfl, by rw [hF.2]; unfold rTagOf; rw [if_pos hfv], rfl, hF.1, hf2.Q (cad_d o) _ _⟩ dX5_write_58)
          · rw [oref_s hreg] at hophreg
            have hvb := And.intro (hK.1.1.b14 (f : Int).toNat) (hK.1.2.2.2.1 (f : Int).toNat (by omega))
            have hsb := (foo (A 14 (f : Int).toNat).toNat (by unfold nn; rw [e6]; omega)).1
            refine c_aaldr (x := f) hC X f40 (Or.inl rfl) (by omega) (by omega) (by omega) hophreg dX5_write_51 ?_
            refine c_aastr (b := aOb (A 14 (f : Int).toNat).toNat) (x := i) hC X u3 (by omega) (by omega) (by omega) hsb dX5_write_52 (fun H locs X => ?_)
            refine m_aloadq (x := none) hx hb hL dX5_write_53 rfl ?_
            refine c_callS hC X (k_X5_tagOf_n) VX5_80 rfl ⟨by decide, by decide⟩ ⟨by decide, by decide⟩ hL.1 rfl (Nat.le_of_ble_eq_true rfl) dX5_write_55 (fun v55 μ55 z55 H locs hp X => ?_)
            obtain ⟨rfl, hm_, hz_⟩ := hp
            have hm_ := hm_.symm
            have hz_ := hz_.symm
            subst hm_
            subst hz_
            rw [hBd] at hc hKB
            have hF := wr_CR (w := some (aOb (A 14 (f : Int).toNat).toNat)) hKB.1.1 (hK.1.1.b9 o).2 hc hregr hregf ho14 hfl (oref_s hreg)
            exact x_ret (Nat.le_of_ble_eq_true rfl) (Nat.le_of_ble_eq_true rfl) (m_iret hC X hr hlk ⟨rHF_is hregr hregf ho14 hfl, by rw [hF.2]; unfold rTagOf; rw [if_pos hfv], rfl, hF.1, hf2.Q (cad_d o) _ _⟩ dX5_write_58)
        · rw [oref_s hfv] at hophfv
          obtain ⟨v1, v2, v3, v4⟩ := foo (A 11 (21 * o + (i : Int).toNat)).toNat (by unfold nn; omega)
          refine c_aaldr (x := i) hC X o3 (Or.inl rfl) (by omega) (by omega) (by omega) hophfv dX5_write_23 ?_
          refine c_astorer hx hb hL dX5_write_24 (Nat.le_of_ble_eq_true rfl) (fun ls hL => ?_)
          refine m_aload_n hx hb hL dX5_write_26 rfl ?_
          refine m_getr (b := 1) hC X FX5_18 f00 rfl f01 dX5_write_27 ?_
          refine m_aload hx hb hL dX5_write_30 rfl ?_
          refine m_aload hx hb hL dX5_write_32 rfl ?_
          refine c_callV hC X (k_X0_prepareWrite_s (b := (A 11 (21 * o + (i : Int).toNat)).toNat) hc hK ho hGo (by unfold nn; omega)) VX5_83 f10 rfl ⟨by decide, by decide⟩ ⟨by decide, by decide⟩ hL.1 rfl (Nat.le_of_ble_eq_true rfl) dX5_write_34 (fun v34 μ34 z34 H locs hp X => ?_)
          obtain ⟨rfl, hz_, hc2, hf2⟩ := hp
          have hz_ := hz_.symm
          subst hz_
          rw [show (((A 11 (21 * o + (i : Int).toNat)).toNat : Nat) : Int) = A 11 (21 * o + (i : Int).toNat) by omega] at hc2
          obtain ⟨hKB, -, hkB⟩ := prep_KK (b := A 11 (21 * o + (i : Int).toNat)) hK ho hGo ⟨hfb.1, hfb.2.1⟩ hfb.2.2
          obtain ⟨B, hBd⟩ : ∃ B, B = rPrep A (o : Int) (A 11 (21 * o + (i : Int).toNat)) := ⟨_, rfl⟩
          rw [← hBd] at hc2 hKB hkB
          have e9 : B 9 o = A 9 o := hkB 9 o (by decide) (by decide) (by decide) (by decide) (by decide) (by decide) (by decide) (by decide) (by decide) (by decide) (by decide)
          have e14 : ∀ j, B 14 j = A 14 j := fun j => hkB 14 j (by decide) (by decide) (by decide) (by decide) (by decide) (by decide) (by decide) (by decide) (by decide) (by decide) (by decide)
          have e10 : ∀ j, B 10 j = A 10 j := fun j => hkB 10 j (by decide) (by decide) (by decide) (by decide) (by decide) (by decide) (by decide) (by decide) (by decide) (by decide) (by decide)
          have e6 : B 6 0 = A 6 0 := hkB 6 0 (by decide) (by decide) (by decide) (by decide) (by decide) (by decide) (by decide) (by decide) (by decide) (by decide) (by decide)
          have hc := hc2
          obtain ⟨h1, h2, h3, h4, h5, h6, h7, h8, hcy0, hcy1⟩ := id hc
          obtain ⟨⟨f00, f01, f02⟩, ⟨f10, f11, f12⟩, ⟨f20, f21, f22⟩, ⟨f30, f40, f50⟩, frr, foo⟩ := id h1
          obtain ⟨g1, g3, g4, g5, g6, g7⟩ := id h2
          obtain ⟨u1, u2, u3, u4⟩ := foo o (by unfold nn; rw [e6]; exact ho)
          rw [e9] at u3
          obtain ⟨w1, w2, w3, w4⟩ := foo (A 11 (21 * o + (i : Int).toNat)).toNat (by unfold nn; rw [e6]; omega)
          rw [e10] at w4
          refine m_aload hx hb hL dX5_write_37 rfl ?_
          refine m_getr (b := aFd o) hC X FX5_77 u1 rfl u2 dX5_write_39 ?_
          refine m_iload_n hx hb hL dX5_write_42 rfl ?_
          refine m_aload_n hx hb hL dX5_write_43 rfl ?_
          refine m_getr (b := 2) hC X FX5_26 f00 rfl f02 dX5_write_44 ?_
          refine m_getr (b := 4) hC X FX5_61 f20 rfl f21 dX5_write_47 ?_
          refine m_iload_n hx hb hL dX5_write_50 rfl ?_
          have hophreg := (by rw [← e14]; exact h3 (f : Int).toNat (by omega) : mq _ 4 (f : Int).toNat = oref (A 14 (f : Int).toNat))
          by_cases hreg : A 14 (f : Int).toNat = -1
          · rw [hreg, oref_n] at hophreg
            refine c_aaldn (x := f) hC X f40 (Or.inl rfl) (by omega) (by omega) (by omega) hophreg dX5_write_51 ?_
            refine c_aastn (x := i) hC X u3 (by omega) (by omega) (by omega) dX5_write_52 (fun H locs X => ?_)
            refine m_aload hx hb hL dX5_write_53 rfl ?_
            refine c_callS hC X (k_X5_tagOf_s (o := aOb (A 11 (21 * o + (i : Int).toNat)).toNat) (t := A 10 (A 11 (21 * o + (i : Int).toNat)).toNat) w1 (by rw [mi_Q]; exact w4)) VX5_80 rfl ⟨by decide, by decide⟩ ⟨by decide, by decide⟩ hL.1 rfl (Nat.le_of_ble_eq_true rfl) dX5_write_55 (fun v55 μ55 z55 H locs hp X => ?_)
            obtain ⟨rfl, hm_, hz_⟩ := hp
            have hm_ := hm_.symm
            have hz_ := hz_.symm
            subst hm_
            subst hz_
            rw [hBd] at hc hKB
            have hF := wr_CR (w := none) hKB.1.1 (hK.1.1.b9 o).2 hc hregr hregf ho14 hfl (by rw [hreg]; rfl)
            exact x_ret (Nat.le_of_ble_eq_true rfl) (Nat.le_of_ble_eq_true rfl) (m_iret hC X hr hlk ⟨rHF_is hregr hregf ho14 hfl, by rw [hF.2]; unfold rTagOf; rw [if_neg hfv], rfl, hF.1, hf2.Q (cad_d o) _ _⟩ dX5_write_58)
          · rw [oref_s hreg] at hophreg
            have hvb := And.intro (hK.1.1.b14 (f : Int).toNat) (hK.1.2.2.2.1 (f : Int).toNat (by omega))
            have hsb := (foo (A 14 (f : Int).toNat).toNat (by unfold nn; rw [e6]; omega)).1
            refine c_aaldr (x := f) hC X f40 (Or.inl rfl) (by omega) (by omega) (by omega) hophreg dX5_write_51 ?_
            refine c_aastr (b := aOb (A 14 (f : Int).toNat).toNat) (x := i) hC X u3 (by omega) (by omega) (by omega) hsb dX5_write_52 (fun H locs X => ?_)
            refine m_aload hx hb hL dX5_write_53 rfl ?_
            refine c_callS hC X (k_X5_tagOf_s (o := aOb (A 11 (21 * o + (i : Int).toNat)).toNat) (t := A 10 (A 11 (21 * o + (i : Int).toNat)).toNat) w1 (by rw [mi_Q]; exact w4)) VX5_80 rfl ⟨by decide, by decide⟩ ⟨by decide, by decide⟩ hL.1 rfl (Nat.le_of_ble_eq_true rfl) dX5_write_55 (fun v55 μ55 z55 H locs hp X => ?_)
            obtain ⟨rfl, hm_, hz_⟩ := hp
            have hm_ := hm_.symm
            have hz_ := hz_.symm
            subst hm_
            subst hz_
            rw [hBd] at hc hKB
            have hF := wr_CR (w := some (aOb (A 14 (f : Int).toNat).toNat)) hKB.1.1 (hK.1.1.b9 o).2 hc hregr hregf ho14 hfl (oref_s hreg)
            exact x_ret (Nat.le_of_ble_eq_true rfl) (Nat.le_of_ble_eq_true rfl) (m_iret hC X hr hlk ⟨rHF_is hregr hregf ho14 hfl, by rw [hF.2]; unfold rTagOf; rw [if_neg hfv], rfl, hF.1, hf2.Q (cad_d o) _ _⟩ dX5_write_58)

set_option maxHeartbeats 4000000 in
theorem k_X5_same {G : mG} {l : Launch} {z : Nat} {ρ : Nat → Nat} {μ : mM} {A : rS} {P Gs : Nat → Prop} {cy : Int} {a b : Int} (hl : l.stackTraces = false) (hc : CR A P cy μ) (hK : KK A P Gs) (ha0 : -2147483648 ≤ a ∧ a ≤ 2147483647) (hb0 : -2147483648 ≤ b ∧ b ≤ 2147483647) : MX (Cond.code yX5_same cX5_same 3 (some .boolean)) G l yX5_same 7 110 2 12 z ρ [.ref (ρ 0), .int (iv a), .int (iv b)] μ (yP (rReg a ∧ rReg b) (cP (some (.int (iv (rSameV A a b)))) μ z)) (xP (¬ (rReg a ∧ rReg b)) XI False μ z) := by
  refine MX.of (by decide) (by simp [Value.category]) (Nat.le_of_ble_eq_true rfl) (Nat.le_of_ble_eq_true rfl) ?_
  intro p e s m args below meth c ls H locs hC hx hb hr hlk hxt hxW hxZ X hL
  obtain ⟨h1, h2, h3, h4, h5, h6, h7, h8, hcy0, hcy1⟩ := id hc
  obtain ⟨⟨f00, f01, f02⟩, ⟨f10, f11, f12⟩, ⟨f20, f21, f22⟩, ⟨f30, f40, f50⟩, frr, foo⟩ := id h1
  obtain ⟨g1, g3, g4, g5, g6, g7⟩ := id h2
  refine m_iload_n hx hb hL dX5_same_0 rfl ?_
  refine x_callS hC hxW hxZ X (k_X5_checkRegister (k := a) hl ha0) VX5_27 rfl ⟨by decide, by decide⟩ ⟨by decide, by decide⟩ hL.1 rfl (Nat.le_of_ble_eq_true rfl) dX5_same_1 (fun E ce q μx zx H locs hpx X hce hcv hcl => ?_) (fun v1 μ1 z1 H locs hp X => ?_)
  · obtain ⟨h9, rfl, hzx⟩ := hpx
    have hn9 : ¬ rReg a := h9.elim (fun q => q.2) (fun q => q.2.elim)
    have hE9 : E = XI := h9.elim (fun q => q.1) (fun q => q.2.elim)
    exact x_out hxt hlk X hce hcv hcl ⟨Or.inl ⟨hE9, fun q => hn9 q.1⟩, rfl, hzx⟩ (by decide) (by decide)
  · obtain ⟨hrega, rfl, hm_, hz_⟩ := hp
    have hm_ := hm_.symm
    have hz_ := hz_.symm
    subst hm_
    subst hz_
    refine m_iload_n hx hb hL dX5_same_4 rfl ?_
    refine x_callS hC hxW hxZ X (k_X5_checkRegister (k := b) hl hb0) VX5_27 rfl ⟨by decide, by decide⟩ ⟨by decide, by decide⟩ hL.1 rfl (Nat.le_of_ble_eq_true rfl) dX5_same_5 (fun E ce q μx zx H locs hpx X hce hcv hcl => ?_) (fun v5 μ5 z5 H locs hp X => ?_)
    · obtain ⟨h9, rfl, hzx⟩ := hpx
      have hn9 : ¬ rReg b := h9.elim (fun q => q.2) (fun q => q.2.elim)
      have hE9 : E = XI := h9.elim (fun q => q.1) (fun q => q.2.elim)
      exact x_out hxt hlk X hce hcv hcl ⟨Or.inl ⟨hE9, fun q => hn9 q.2⟩, rfl, hzx⟩ (by decide) (by decide)
    · obtain ⟨hregb, rfl, hm_, hz_⟩ := hp
      have hm_ := hm_.symm
      have hz_ := hz_.symm
      subst hm_
      subst hz_
      refine m_aload_n hx hb hL dX5_same_8 rfl ?_
      refine m_getr (b := 2) hC X FX5_26 f00 rfl f02 dX5_same_9 ?_
      refine m_getr (b := 4) hC X FX5_61 f20 rfl f21 dX5_same_12 ?_
      refine m_iload_n hx hb hL dX5_same_15 rfl ?_
      refine c_aaldq (x := a) hC X f40 (Or.inl rfl) (by omega) (by omega) (by omega) (h3 (a : Int).toNat (by omega)) dX5_same_16 ?_
      refine m_aload_n hx hb hL dX5_same_17 rfl ?_
      refine m_getr (b := 2) hC X FX5_26 f00 rfl f02 dX5_same_18 ?_
      refine m_getr (b := 4) hC X FX5_61 f20 rfl f21 dX5_same_21 ?_
      refine m_iload_n hx hb hL dX5_same_24 rfl ?_
      refine c_aaldq (x := b) hC X f40 (Or.inl rfl) (by omega) (by omega) (by omega) (h3 (b : Int).toNat (by omega)) dX5_same_25 ?_
      refine lv_acmp_ne (rx := ((oref (A 14 (a : Int).toNat))).map ρ) (ry := ((oref (A 14 (b : Int).toNat))).map ρ) (tgt := 33) hx hb dX5_same_26 (by decide) (fun c26 => ?_) (fun c26 => ?_)
      · refine lv_iconst (v := iv 0) hx hb dX5_same_33 rfl ?_
        exact x_ret (Nat.le_of_ble_eq_true rfl) (Nat.le_of_ble_eq_true rfl) (m_zret hC X hr hlk (by decide) ⟨⟨hrega, hregb⟩, by unfold rSameV; rw [if_pos ⟨hrega, hregb⟩, bZ_f (fun q => c26 ((same_iff X hc (And.intro (hK.1.1.b14 _).1 (hK.1.2.2.2.1 _ (by omega))) (And.intro (hK.1.1.b14 _).1 (hK.1.2.2.2.1 _ (by omega)))).mpr q))], rfl, rfl⟩ dX5_same_34)
      · refine lv_iconst (v := iv 1) hx hb dX5_same_29 rfl ?_
        refine lv_goto (tgt := 34) hx hb dX5_same_30 (by decide) ?_
        exact x_ret (Nat.le_of_ble_eq_true rfl) (Nat.le_of_ble_eq_true rfl) (m_zret hC X hr hlk (by decide) ⟨⟨hrega, hregb⟩, by unfold rSameV; rw [if_pos ⟨hrega, hregb⟩, bZ_t ((same_iff X hc (And.intro (hK.1.1.b14 _).1 (hK.1.2.2.2.1 _ (by omega))) (And.intro (hK.1.1.b14 _).1 (hK.1.2.2.2.1 _ (by omega)))).mp c26)], rfl, rfl⟩ dX5_same_34)

set_option maxHeartbeats 4000000 in
theorem k_X5_begin {G : mG} {l : Launch} {z : Nat} {ρ : Nat → Nat} {μ : mM} {A : rS} {P Gs : Nat → Prop} {cy : Int} (hc : CR A P cy μ) (hK : KK A P Gs) (hcy : cy < 2000) : MZ G l yX5_begin cX5_begin 1 (some .int) 3 66 z ρ [.ref (ρ 0)] μ (cR (some (.int (iv (rBeginV A)))) (rBegin A) P (if A 18 0 ≤ 0 then cy + 1 else cy) μ z) := by
  refine MZ.of (by decide) (by simp [Value.category]) (Nat.le_of_ble_eq_true rfl) (Nat.le_of_ble_eq_true rfl) ?_
  intro p e s m args below meth c ls H locs hC hx hb hr hlk X hL
  have hc := (z_CR 0).mpr hc
  have hK := KK_0 (v := 0) hK (by omega)
  obtain ⟨h1, h2, h3, h4, h5, h6, h7, h8, hcy0, hcy1⟩ := id hc
  obtain ⟨⟨f00, f01, f02⟩, ⟨f10, f11, f12⟩, ⟨f20, f21, f22⟩, ⟨f30, f40, f50⟩, frr, foo⟩ := id h1
  obtain ⟨g1, g3, g4, g5, g6, g7⟩ := id h2
  have b18 := hK.1.1.b18 0
  refine m_aload_n hx hb hL dX5_begin_0 rfl ?_
  refine m_getr (b := 1) hC X FX5_18 f00 rfl f01 dX5_begin_1 ?_
  refine c_geti (x := ((up A 0 0 0) 18 0)) hC X FX5_91 f10 rfl g3 dX5_begin_4 ?_
  refine m_if_eq (tgt := 12) hx hb dX5_begin_7 (by decide) (by omega) (fun c7 => ?_) (fun c7 => ?_)
  · refine m_aload_n hx hb hL dX5_begin_12 rfl ?_
    refine m_getr (b := 1) hC X FX5_18 f00 rfl f01 dX5_begin_13 ?_
    refine c_callV hC X (k_X0_startCycle hc hK c7 hcy) VX5_94 f10 rfl ⟨by decide, by decide⟩ ⟨by decide, by decide⟩ hL.1 rfl (Nat.le_of_ble_eq_true rfl) dX5_begin_16 (fun v16 μ16 z16 H locs hp X => ?_)
    obtain ⟨rfl, hz_, hc2, hf2⟩ := hp
    have hz_ := hz_.symm
    subst hz_
    refine lv_iconst (v := iv 1) hx hb dX5_begin_19 rfl ?_
    exact m_iret hC X hr hlk ⟨by unfold rBeginV; rw [bZ_t (show A 18 0 ≤ 0 from Int.le_of_eq c7)], rfl, by unfold rBegin; rw [if_pos (show A 18 0 ≤ 0 from Int.le_of_eq c7), if_pos (show A 18 0 ≤ 0 from Int.le_of_eq c7)]; exact hc2, hf2⟩ dX5_begin_20
  · refine lv_iconst (v := iv 0) hx hb dX5_begin_10 rfl ?_
    have hn7 : ¬ A 18 0 ≤ 0 := fun q => c7 (by show A 18 0 = 0; have : 0 ≤ A 18 0 := b18.1; omega)
    exact m_iret hC X hr hlk ⟨by unfold rBeginV; rw [bZ_f hn7], rfl, by unfold rBegin; rw [if_neg hn7, if_neg hn7]; exact hc, cfr.rf μ⟩ dX5_begin_11

set_option maxHeartbeats 4000000 in
theorem k_X5_work {G : mG} {l : Launch} {z : Nat} {ρ : Nat → Nat} {μ : mM} {A : rS} {P Gs : Nat → Prop} {cy : Int} {n : Int} (hl : l.stackTraces = false) (hc : CR A P cy μ) (hK : KK A P Gs) (hn0 : -2147483648 ≤ n ∧ n ≤ 2147483647) : MX (Cond.code yX5_work cX5_work 2 (some .int)) G l yX5_work 6 116 1 6 z ρ [.ref (ρ 0), .int (iv n)] μ (yP (0 ≤ n ∧ n ≤ 10000) (cR (some (.int (iv (rWorkV A n)))) (rWork A n) (pRun n.toNat (up A 0 0 0) P) cy μ z)) (xP False XA (¬ (0 ≤ n ∧ n ≤ 10000)) μ z) := by
  refine MX.of (by decide) (by simp [Value.category]) (Nat.le_of_ble_eq_true rfl) (Nat.le_of_ble_eq_true rfl) ?_
  intro p e s m args below meth c ls H locs hC hx hb hr hlk hxt hxW hxZ X hL
  have hc := (z_CR 0).mpr hc
  have hK := KK_0 (v := 0) hK (by omega)
  obtain ⟨h1, h2, h3, h4, h5, h6, h7, h8, hcy0, hcy1⟩ := id hc
  obtain ⟨⟨f00, f01, f02⟩, ⟨f10, f11, f12⟩, ⟨f20, f21, f22⟩, ⟨f30, f40, f50⟩, frr, foo⟩ := id h1
  obtain ⟨g1, g3, g4, g5, g6, g7⟩ := id h2
  have b18 := hK.1.1.b18 0
  refine m_iload_n hx hb hL dX5_work_0 rfl ?_
  refine m_if_lt (tgt := 11) hx hb dX5_work_1 (by decide) (by omega) (fun c1 => ?_) (fun c1 => ?_)
  · exact x_throw (is := 97) hC hl hxt hlk hxW hxZ X (by decide +kernel) x_wA.1 x_wA.2.1 x_wA.2.2.1 (by decide) hxW.1.2.2.1 x_wA.2.2.2.1 x_wA.2.2.2.2 hL.1 dX5_work_11 dX5_work_14 dX5_work_15 dX5_work_17 dX5_work_20 (by decide) (Nat.le_of_ble_eq_true rfl) (by decide) (by decide) (by decide) (fun z9 hz9 => ⟨Or.inr ⟨rfl, by omega⟩, rfl, hz9⟩) (by decide) (by decide)
  · refine m_iload_n hx hb hL dX5_work_4 rfl ?_
    refine lv_sipush (v := iv 10000) hx hb dX5_work_5 (by decide +kernel) ?_
    refine m_icmp_le (tgt := 21) hx hb dX5_work_8 (by decide) (by omega) (by omega) (fun c8 => ?_) (fun c8 => ?_)
    · refine m_aload_n hx hb hL dX5_work_21 rfl ?_
      refine m_getr (b := 1) hC X FX5_18 f00 rfl f01 dX5_work_22 ?_
      refine m_iload_n hx hb hL dX5_work_25 rfl ?_
      refine c_callV hC X (k_X0_runUnits (n := n) hc hK (by omega)) VX5_99 f10 rfl ⟨by decide, by decide⟩ ⟨by decide, by decide⟩ hL.1 rfl (Nat.le_of_ble_eq_true rfl) dX5_work_26 (fun v26 μ26 z26 H locs hp X => ?_)
      obtain ⟨rfl, hz_, hc2, hf2⟩ := hp
      have hz_ := hz_.symm
      subst hz_
      have hc := hc2
      obtain ⟨h1, h2, h3, h4, h5, h6, h7, h8, hcy0, hcy1⟩ := id hc
      obtain ⟨⟨f00, f01, f02⟩, ⟨f10, f11, f12⟩, ⟨f20, f21, f22⟩, ⟨f30, f40, f50⟩, frr, foo⟩ := id h1
      obtain ⟨g1, g3, g4, g5, g6, g7⟩ := id h2
      refine m_aload_n hx hb hL dX5_work_29 rfl ?_
      refine m_getr (b := 1) hC X FX5_18 f00 rfl f01 dX5_work_30 ?_
      refine c_geti (x := ((rRun n.toNat (up A 0 0 0)) 18 0)) hC X FX5_91 f10 rfl g3 dX5_work_33 ?_
      exact x_ret (Nat.le_of_ble_eq_true rfl) (Nat.le_of_ble_eq_true rfl) (m_iret hC X hr hlk ⟨⟨by omega, by omega⟩, by unfold rWorkV; rw [if_pos ⟨by omega, by omega⟩], rfl, by unfold rWork; rw [if_pos ⟨by omega, by omega⟩]; exact hc, hf2⟩ dX5_work_36)
    · exact x_throw (is := 97) hC hl hxt hlk hxW hxZ X (by decide +kernel) x_wA.1 x_wA.2.1 x_wA.2.2.1 (by decide) hxW.1.2.2.1 x_wA.2.2.2.1 x_wA.2.2.2.2 hL.1 dX5_work_11 dX5_work_14 dX5_work_15 dX5_work_17 dX5_work_20 (by decide) (Nat.le_of_ble_eq_true rfl) (by decide) (by decide) (by decide) (fun z9 hz9 => ⟨Or.inr ⟨rfl, by omega⟩, rfl, hz9⟩) (by decide) (by decide)

set_option maxHeartbeats 4000000 in
theorem k_X5_collect {G : mG} {l : Launch} {z : Nat} {ρ : Nat → Nat} {μ : mM} {A : rS} {P Gs : Nat → Prop} {cy : Int} (hc : CR A P cy μ) (hK : KK A P Gs) (hcy : cy < 2000) : MZ G l yX5_collect cX5_collect 1 (some .int) 6 136 z ρ [.ref (ρ 0)] μ (cR (some (.int (iv (rFree (rCollect A))))) (rCollect A) (pWhole (up A 0 0 0) P) (cy + 1) μ z) := by
  refine MZ.of (by decide) (by simp [Value.category]) (Nat.le_of_ble_eq_true rfl) (Nat.le_of_ble_eq_true rfl) ?_
  intro p e s m args below meth c ls H locs hC hx hb hr hlk X hL
  have hc := (z_CR 0).mpr hc
  have hK := KK_0 (v := 0) hK (by omega)
  obtain ⟨h1, h2, h3, h4, h5, h6, h7, h8, hcy0, hcy1⟩ := id hc
  obtain ⟨⟨f00, f01, f02⟩, ⟨f10, f11, f12⟩, ⟨f20, f21, f22⟩, ⟨f30, f40, f50⟩, frr, foo⟩ := id h1
  obtain ⟨g1, g3, g4, g5, g6, g7⟩ := id h2
  have b18 := hK.1.1.b18 0
  refine m_aload_n hx hb hL dX5_collect_0 rfl ?_
  refine m_getr (b := 1) hC X FX5_18 f00 rfl f01 dX5_collect_1 ?_
  refine c_callV hC X (k_X0_collectWhole hc hK hcy) VX5_44 f10 rfl ⟨by decide, by decide⟩ ⟨by decide, by decide⟩ hL.1 rfl (Nat.le_of_ble_eq_true rfl) dX5_collect_4 (fun v4 μ4 z4 H locs hp X => ?_)
  obtain ⟨rfl, hz_, hc2, hf2⟩ := hp
  have hz_ := hz_.symm
  subst hz_
  have hc := hc2
  have hKW := (whole_KK hK).1
  obtain ⟨h1, h2, h3, h4, h5, h6, h7, h8, hcy0, hcy1⟩ := id hc
  obtain ⟨⟨f00, f01, f02⟩, ⟨f10, f11, f12⟩, ⟨f20, f21, f22⟩, ⟨f30, f40, f50⟩, frr, foo⟩ := id h1
  obtain ⟨g1, g3, g4, g5, g6, g7⟩ := id h2
  refine m_aload_n hx hb hL dX5_collect_7 rfl ?_
  refine m_getr (b := 2) hC X FX5_26 f00 rfl f02 dX5_collect_8 ?_
  refine c_callV hC X (k_X2_countFree h1 (fun r hr => (h6 r hr).1) hKW.1.1) VX5_102 f20 rfl ⟨by decide, by decide⟩ ⟨by decide, by decide⟩ hL.1 rfl (Nat.le_of_ble_eq_true rfl) dX5_collect_11 (fun v11 μ11 z11 H locs hp X => ?_)
  obtain ⟨rfl, hm_, hz_⟩ := hp
  have hm_ := hm_.symm
  have hz_ := hz_.symm
  subst hm_
  subst hz_
  exact m_iret hC X hr hlk ⟨rfl, rfl, hc, hf2⟩ dX5_collect_14

set_option maxHeartbeats 4000000 in
theorem k_X5_region {G : mG} {l : Launch} {z : Nat} {ρ : Nat → Nat} {μ : mM} {A : rS} {P Gs : Nat → Prop} {cy : Int} {i w : Int} (hl : l.stackTraces = false) (hc : CR A P cy μ) (hK : KK A P Gs) (hi0 : -2147483648 ≤ i ∧ i ≤ 2147483647) (hw0 : -2147483648 ≤ w ∧ w ≤ 2147483647) : MX (Cond.code yX5_region cX5_region 4 (some .int)) G l yX5_region 6 90 1 6 z ρ [.ref (ρ 0), .int (iv i), .int (iv w)] μ (yP (0 ≤ i ∧ i < A 1 0) (cP (some (.int (iv (rRegionV A i w)))) μ z)) (xP (¬ (0 ≤ i ∧ i < A 1 0)) XI False μ z) := by
  refine MX.of (by decide) (by simp [Value.category]) (Nat.le_of_ble_eq_true rfl) (Nat.le_of_ble_eq_true rfl) ?_
  intro p e s m args below meth c ls H locs hC hx hb hr hlk hxt hxW hxZ X hL
  obtain ⟨h1, h2, h3, h4, h5, h6, h7, h8, hcy0, hcy1⟩ := id hc
  obtain ⟨⟨f00, f01, f02⟩, ⟨f10, f11, f12⟩, ⟨f20, f21, f22⟩, ⟨f30, f40, f50⟩, frr, foo⟩ := id h1
  obtain ⟨g1, g3, g4, g5, g6, g7⟩ := id h2
  have b1 := hK.1.1.b1 0
  have hRN : ((RN A : Nat) : Int) = A 1 0 := by unfold RN; omega
  refine m_iload_n hx hb hL dX5_region_0 rfl ?_
  refine m_if_lt (tgt := 16) hx hb dX5_region_1 (by decide) (by omega) (fun c1 => ?_) (fun c1 => ?_)
  · exact x_throw (is := 112) hC hl hxt hlk hxW hxZ X (by decide +kernel) x_wI.1 x_wI.2.1 x_wI.2.2.1 (by decide) hxW.1.2.1 x_wI.2.2.2.1 x_wI.2.2.2.2 hL.1 dX5_region_16 dX5_region_19 dX5_region_20 dX5_region_22 dX5_region_25 (by decide) (Nat.le_of_ble_eq_true rfl) (by decide) (by decide) (by decide) (fun z9 hz9 => ⟨Or.inl ⟨rfl, by omega⟩, rfl, hz9⟩) (by decide) (by decide)
  · refine m_iload_n hx hb hL dX5_region_4 rfl ?_
    refine m_aload_n hx hb hL dX5_region_5 rfl ?_
    refine m_getr (b := 2) hC X FX5_26 f00 rfl f02 dX5_region_6 ?_
    refine m_getr (b := 5) hC X FX5_106 f20 rfl f22 dX5_region_9 ?_
    refine c_alen hC X f50 (by decide) dX5_region_12 ?_
    refine m_icmp_lt (tgt := 26) hx hb dX5_region_13 (by decide) (by omega) (by omega) (fun c13 => ?_) (fun c13 => ?_)
    · refine m_aload_n hx hb hL dX5_region_26 rfl ?_
      refine m_getr (b := 2) hC X FX5_26 f00 rfl f02 dX5_region_27 ?_
      refine m_getr (b := 5) hC X FX5_106 f20 rfl f22 dX5_region_30 ?_
      refine m_iload_n hx hb hL dX5_region_33 rfl ?_
      have hrn : i.toNat < RN A := by omega
      obtain ⟨r1, r2, r3, r4, r5⟩ := frr i.toNat hrn
      obtain ⟨rk, ru, ⟨rq, re, rea, reb⟩, rp, rd, rda, rdb, rdc⟩ := h6 i.toNat hrn
      refine c_aaldr (x := i) hC X f50 (Or.inr rfl) (by omega) (by omega) (by omega) r1 dX5_region_34 ?_
      refine c_astore_nr hx hb hL dX5_region_35 (Nat.le_of_ble_eq_true rfl) (fun ls hL => ?_)
      refine m_iload_n hx hb hL dX5_region_36 rfl ?_
      rcases (show w = 0 ∨ w = 1 ∨ w = 2 ∨ (w < 0 ∨ 2 < w) by omega) with rfl | rfl | rfl | hw
      · refine lv_tableIn (x := iv 0) (off := 27) (tgt := 64) hx hb dX5_region_37 (by decide) (by decide) (by decide +kernel) (by decide) ?_
        refine m_aload_n hx hb hL dX5_region_64 rfl ?_
        refine c_geti (x := (A 3 i.toNat)) hC X FX5_115 r2 rfl rk dX5_region_65 ?_
        exact x_ret (Nat.le_of_ble_eq_true rfl) (Nat.le_of_ble_eq_true rfl) (m_iret hC X hr hlk ⟨⟨by omega, by omega⟩, by unfold rRegionV; rw [if_pos ⟨by omega, by omega⟩]; rw [if_pos rfl], rfl, rfl⟩ dX5_region_68)
      · refine lv_tableIn (x := iv 1) (off := 32) (tgt := 69) hx hb dX5_region_37 (by decide) (by decide) (by decide +kernel) (by decide) ?_
        refine m_aload_n hx hb hL dX5_region_69 rfl ?_
        refine c_geti (x := (A 4 i.toNat)) hC X FX5_118 r2 rfl ru dX5_region_70 ?_
        exact x_ret (Nat.le_of_ble_eq_true rfl) (Nat.le_of_ble_eq_true rfl) (m_iret hC X hr hlk ⟨⟨by omega, by omega⟩, by unfold rRegionV; rw [if_pos ⟨by omega, by omega⟩]; rw [if_neg (by decide), if_pos rfl], rfl, rfl⟩ dX5_region_73)
      · refine lv_tableIn (x := iv 2) (off := 37) (tgt := 74) hx hb dX5_region_37 (by decide) (by decide) (by decide +kernel) (by decide) ?_
        refine m_aload_n hx hb hL dX5_region_74 rfl ?_
        refine m_aload_n hx hb hL dX5_region_75 rfl ?_
        refine m_getr (b := 1) hC X FX5_18 f00 rfl f01 dX5_region_76 ?_
        refine c_geti (x := cy) hC X FX5_121 f10 rfl g4 dX5_region_79 ?_
        refine c_callV hC X (k_X3_seenWords (r := i.toNat) hc hK.1 hK.2.2.1 hK.2.2.2.2.1 hrn) VX5_124 r2 rfl ⟨by decide, by decide⟩ ⟨by decide, by decide⟩ hL.1 rfl (Nat.le_of_ble_eq_true rfl) dX5_region_82 (fun v82 μ82 z82 H locs hp X => ?_)
        obtain ⟨rfl, hm_, hz_⟩ := hp
        have hm_ := hm_.symm
        have hz_ := hz_.symm
        subst hm_
        subst hz_
        exact x_ret (Nat.le_of_ble_eq_true rfl) (Nat.le_of_ble_eq_true rfl) (m_iret hC X hr hlk ⟨⟨by omega, by omega⟩, by unfold rRegionV; rw [if_pos ⟨by omega, by omega⟩]; rw [if_neg (by decide), if_neg (by decide), if_pos rfl, show ((i.toNat : Nat) : Int) = i by omega], rfl, rfl⟩ dX5_region_85)
      · refine lv_tableOut (x := iv w) (tgt := 86) hx hb dX5_region_37 (by rw [iv_toInt (by omega)]; omega) (by decide) ?_
        refine lv_iconst (v := iv (-1)) hx hb dX5_region_86 rfl ?_
        exact x_ret (Nat.le_of_ble_eq_true rfl) (Nat.le_of_ble_eq_true rfl) (m_iret hC X hr hlk ⟨⟨by omega, by omega⟩, by unfold rRegionV; rw [if_pos ⟨by omega, by omega⟩]; rw [if_neg (by omega), if_neg (by omega), if_neg (by omega)], rfl, rfl⟩ dX5_region_87)
    · exact x_throw (is := 112) hC hl hxt hlk hxW hxZ X (by decide +kernel) x_wI.1 x_wI.2.1 x_wI.2.2.1 (by decide) hxW.1.2.1 x_wI.2.2.2.1 x_wI.2.2.2.2 hL.1 dX5_region_16 dX5_region_19 dX5_region_20 dX5_region_22 dX5_region_25 (by decide) (Nat.le_of_ble_eq_true rfl) (by decide) (by decide) (by decide) (fun z9 hz9 => ⟨Or.inl ⟨rfl, by omega⟩, rfl, hz9⟩) (by decide) (by decide)

set_option maxHeartbeats 4000000 in
theorem k_X5_count {G : mG} {l : Launch} {z : Nat} {ρ : Nat → Nat} {μ : mM} {A : rS} {P Gs : Nat → Prop} {cy : Int} {w : Int} (hc : CR A P cy μ) (hK : KK A P Gs) (hw0 : -2147483648 ≤ w ∧ w ≤ 2147483647) : MZ G l yX5_count cX5_count 2 (some .int) 0 0 z ρ [.ref (ρ 0), .int (iv w)] μ (cP (some (.int (iv (rCountV A w)))) μ z) := by
  refine MZ.of (by decide) (by simp [Value.category]) (Nat.le_of_ble_eq_true rfl) (Nat.le_of_ble_eq_true rfl) ?_
  intro p e s m args below meth c ls H locs hC hx hb hr hlk X hL
  obtain ⟨h1, h2, h3, h4, h5, h6, h7, h8, hcy0, hcy1⟩ := id hc
  obtain ⟨⟨f00, f01, f02⟩, ⟨f10, f11, f12⟩, ⟨f20, f21, f22⟩, ⟨f30, f40, f50⟩, frr, foo⟩ := id h1
  obtain ⟨g1, g3, g4, g5, g6, g7⟩ := id h2
  have hcnt : (if A 18 0 = 1 then A 17 0 - A 16 0 else 0) = A 17 0 - A 16 0 := by
    split
    · rfl
    · rename_i w0; have := hK.2.2.2.1.1 w0; omega
  refine m_iload_n hx hb hL dX5_count_0 rfl ?_
  rcases (show w = 0 ∨ w = 1 ∨ w = 2 ∨ (w < 0 ∨ 2 < w) by omega) with rfl | rfl | rfl | hw
  · refine lv_tableIn (x := iv 0) (off := 27) (tgt := 28) hx hb dX5_count_1 (by decide) (by decide) (by decide +kernel) (by decide) ?_
    refine m_aload_n hx hb hL dX5_count_28 rfl ?_
    refine m_getr (b := 1) hC X FX5_18 f00 rfl f01 dX5_count_29 ?_
    refine c_geti (x := (A 20 0)) hC X FX5_128 f10 rfl g6 dX5_count_32 ?_
    exact m_iret hC X hr hlk ⟨by unfold rCountV; rw [if_pos rfl], rfl, rfl⟩ dX5_count_35
  · refine lv_tableIn (x := iv 1) (off := 35) (tgt := 36) hx hb dX5_count_1 (by decide) (by decide) (by decide +kernel) (by decide) ?_
    refine m_aload_n hx hb hL dX5_count_36 rfl ?_
    refine m_getr (b := 1) hC X FX5_18 f00 rfl f01 dX5_count_37 ?_
    refine c_geti (x := (A 21 0)) hC X FX5_131 f10 rfl g7 dX5_count_40 ?_
    exact m_iret hC X hr hlk ⟨by unfold rCountV; rw [if_neg (by decide), if_pos rfl], rfl, rfl⟩ dX5_count_43
  · refine lv_tableIn (x := iv 2) (off := 43) (tgt := 44) hx hb dX5_count_1 (by decide) (by decide) (by decide +kernel) (by decide) ?_
    refine m_aload_n hx hb hL dX5_count_44 rfl ?_
    refine m_getr (b := 1) hC X FX5_18 f00 rfl f01 dX5_count_45 ?_
    refine m_getr (b := 3) hC X FX5_134 f10 rfl f12 dX5_count_48 ?_
    refine c_geti (x := (A 17 0 - A 16 0)) hC X FX5_138 f30 rfl h5.2.2.1 dX5_count_51 ?_
    exact m_iret hC X hr hlk ⟨by unfold rCountV; rw [if_neg (by decide), if_neg (by decide), if_pos rfl, hcnt], rfl, rfl⟩ dX5_count_54
  · refine lv_tableOut (x := iv w) (tgt := 55) hx hb dX5_count_1 (by rw [iv_toInt (by omega)]; omega) (by decide) ?_
    refine lv_iconst (v := iv (-1)) hx hb dX5_count_55 rfl ?_
    exact m_iret hC X hr hlk ⟨by unfold rCountV; rw [if_neg (by omega), if_neg (by omega), if_neg (by omega)], rfl, rfl⟩ dX5_count_56

