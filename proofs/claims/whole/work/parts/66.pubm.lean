/-! the public calls of the class (printed by wip/tools/cls7.py) -/
set_option maxHeartbeats 4000000 in
theorem k_X5_checkRegister {G : mG} {l : Launch} {z : Nat} {ρ : Nat → Nat} {μ : mM} {k : Int} (hl : l.stackTraces = false) (hk0 : -2147483648 ≤ k ∧ k ≤ 2147483647) : MX (Cond.code yX5_checkRegister cX5_checkRegister 1 none) G l yX5_checkRegister 6 90 1 6 z ρ [.int (iv k)] μ (yP (rReg k) (cP none μ z)) (xP (¬ rReg k) XI False μ z) := by
  refine MX.of (by decide) (by simp [Value.category]) (Nat.le_of_ble_eq_true rfl) (Nat.le_of_ble_eq_true rfl) ?_
  intro p e s m args below meth c ls H locs hC hx hb hr hlk hxt hxW hxZ X hL
  refine m_iload_n hx hb hL dX5_checkRegister_0 rfl ?_
  refine m_if_lt (tgt := 10) hx hb dX5_checkRegister_1 (by decide) (by omega) (fun c1 => ?_) (fun c1 => ?_)
  · exact x_throw (is := 152) hC hl hxt hlk hxW hxZ X (by decide +kernel) x_wI.1 x_wI.2.1 x_wI.2.2.1 (by decide) hxW.1.2.1 x_wI.2.2.2.1 x_wI.2.2.2.2 hL.1 dX5_checkRegister_10 dX5_checkRegister_13 dX5_checkRegister_14 dX5_checkRegister_16 dX5_checkRegister_19 (by decide) (Nat.le_of_ble_eq_true rfl) (by decide) (by decide) (by decide) (fun z9 hz9 => ⟨Or.inl ⟨rfl, by unfold rReg; omega⟩, rfl, hz9⟩) (by decide) (by decide)
  · refine m_iload_n hx hb hL dX5_checkRegister_4 rfl ?_
    refine lv_bipush (v := iv 10) hx hb dX5_checkRegister_5 (by decide +kernel) ?_
    refine m_icmp_lt (tgt := 20) hx hb dX5_checkRegister_7 (by decide) (by omega) (by omega) (fun c7 => ?_) (fun c7 => ?_)
    · exact x_ret (Nat.le_of_ble_eq_true rfl) (Nat.le_of_ble_eq_true rfl) (m_vret hC X hr hlk ⟨⟨by omega, by omega⟩, rfl, rfl, rfl⟩ dX5_checkRegister_20)
    · exact x_throw (is := 152) hC hl hxt hlk hxW hxZ X (by decide +kernel) x_wI.1 x_wI.2.1 x_wI.2.2.1 (by decide) hxW.1.2.1 x_wI.2.2.2.1 x_wI.2.2.2.2 hL.1 dX5_checkRegister_10 dX5_checkRegister_13 dX5_checkRegister_14 dX5_checkRegister_16 dX5_checkRegister_19 (by decide) (Nat.le_of_ble_eq_true rfl) (by decide) (by decide) (by decide) (fun z9 hz9 => ⟨Or.inl ⟨rfl, by unfold rReg; omega⟩, rfl, hz9⟩) (by decide) (by decide)

set_option maxHeartbeats 4000000 in
theorem k_X5_checkField {G : mG} {l : Launch} {z : Nat} {ρ : Nat → Nat} {μ : mM} {o f n : Nat} {i : Int} (hl : l.stackTraces = false) (ho : sh μ o = some (.inl 1)) (hf : mq μ o 1 = some f) (hs : sh μ f = some (.inr (3, n))) (hn0 : n ≤ 20) (hi0 : -2147483648 ≤ i ∧ i ≤ 2147483647) : MX (Cond.code yX5_checkField cX5_checkField 2 none) G l yX5_checkField 6 90 1 6 z ρ [.ref (ρ o), .int (iv i)] μ (yP (0 ≤ i ∧ i < n) (cP none μ z)) (xP (¬ (0 ≤ i ∧ i < n)) XI False μ z) := by
  refine MX.of (by decide) (by simp [Value.category]) (Nat.le_of_ble_eq_true rfl) (Nat.le_of_ble_eq_true rfl) ?_
  intro p e s m args below meth c ls H locs hC hx hb hr hlk hxt hxW hxZ X hL
  refine m_iload_n hx hb hL dX5_checkField_0 rfl ?_
  refine m_if_lt (tgt := 13) hx hb dX5_checkField_1 (by decide) (by omega) (fun c1 => ?_) (fun c1 => ?_)
  · exact x_throw (is := 154) hC hl hxt hlk hxW hxZ X (by decide +kernel) x_wI.1 x_wI.2.1 x_wI.2.2.1 (by decide) hxW.1.2.1 x_wI.2.2.2.1 x_wI.2.2.2.2 hL.1 dX5_checkField_13 dX5_checkField_16 dX5_checkField_17 dX5_checkField_19 dX5_checkField_22 (by decide) (Nat.le_of_ble_eq_true rfl) (by decide) (by decide) (by decide) (fun z9 hz9 => ⟨Or.inl ⟨rfl, by omega⟩, rfl, hz9⟩) (by decide) (by decide)
  · refine m_iload_n hx hb hL dX5_checkField_4 rfl ?_
    refine m_aload_n hx hb hL dX5_checkField_5 rfl ?_
    refine m_getr (b := f) hC X FX5_77 ho rfl hf dX5_checkField_6 ?_
    refine c_alen hC X hs (by decide) dX5_checkField_9 ?_
    refine m_icmp_lt (tgt := 23) hx hb dX5_checkField_10 (by decide) (by omega) (by omega) (fun c10 => ?_) (fun c10 => ?_)
    · exact x_ret (Nat.le_of_ble_eq_true rfl) (Nat.le_of_ble_eq_true rfl) (m_vret hC X hr hlk ⟨⟨by omega, by omega⟩, rfl, rfl, rfl⟩ dX5_checkField_23)
    · exact x_throw (is := 154) hC hl hxt hlk hxW hxZ X (by decide +kernel) x_wI.1 x_wI.2.1 x_wI.2.2.1 (by decide) hxW.1.2.1 x_wI.2.2.2.1 x_wI.2.2.2.2 hL.1 dX5_checkField_13 dX5_checkField_16 dX5_checkField_17 dX5_checkField_19 dX5_checkField_22 (by decide) (Nat.le_of_ble_eq_true rfl) (by decide) (by decide) (by decide) (fun z9 hz9 => ⟨Or.inl ⟨rfl, by omega⟩, rfl, hz9⟩) (by decide) (by decide)

set_option maxHeartbeats 4000000 in
theorem k_X5_objectIn {G : mG} {l : Launch} {z : Nat} {ρ : Nat → Nat} {μ : mM} {A : rS} {P Gs : Nat → Prop} {cy : Int} {k : Int} (hl : l.stackTraces = false) (hc : CR A P cy μ) (hK : KK A P Gs) (hk0 : -2147483648 ≤ k ∧ k ≤ 2147483647) : MX (Cond.code yX5_objectIn cX5_objectIn 3 (some (.object "ForwardHeap$HeapObject"))) G l yX5_objectIn 7 110 2 12 z ρ [.ref (ρ 0), .int (iv k)] μ (yP (rReg k ∧ A 14 (k : Int).toNat ≠ -1) (cP (some (.ref (ρ (aOb (A 14 (k : Int).toNat).toNat)))) μ z)) (xP (¬ rReg k) XT (rReg k ∧ A 14 (k : Int).toNat = -1) μ z) := by
  refine MX.of (by decide) (by simp [Value.category]) (Nat.le_of_ble_eq_true rfl) (Nat.le_of_ble_eq_true rfl) ?_
  intro p e s m args below meth c ls H locs hC hx hb hr hlk hxt hxW hxZ X hL
  obtain ⟨h1, h2, h3, h4, h5, h6, h7, h8, hcy0, hcy1⟩ := id hc
  obtain ⟨⟨f00, f01, f02⟩, ⟨f10, f11, f12⟩, ⟨f20, f21, f22⟩, ⟨f30, f40, f50⟩, frr, foo⟩ := id h1
  obtain ⟨g1, g3, g4, g5, g6, g7⟩ := id h2
  refine m_iload_n hx hb hL dX5_objectIn_0 rfl ?_
  refine x_callS hC hxW hxZ X (k_X5_checkRegister (k := k) hl hk0) VX5_27 rfl ⟨by decide, by decide⟩ ⟨by decide, by decide⟩ hL.1 rfl (Nat.le_of_ble_eq_true rfl) dX5_objectIn_1 (fun E ce q μx zx H locs hpx X hce hcv hcl => ?_) (fun v1 μ1 z1 H locs hp X => ?_)
  · obtain ⟨h9, rfl, hzx⟩ := hpx
    have hn9 : ¬ rReg k := h9.elim (fun q => q.2) (fun q => q.2.elim)
    have hE9 : E = XI := h9.elim (fun q => q.1) (fun q => q.2.elim)
    exact x_out hxt hlk X hce hcv hcl ⟨Or.inl ⟨hE9, hn9⟩, rfl, hzx⟩ (by decide) (by decide)
  · obtain ⟨hregk, rfl, hm_, hz_⟩ := hp
    have hm_ := hm_.symm
    have hz_ := hz_.symm
    subst hm_
    subst hz_
    refine m_aload_n hx hb hL dX5_objectIn_4 rfl ?_
    refine m_getr (b := 2) hC X FX5_26 f00 rfl f02 dX5_objectIn_5 ?_
    refine m_getr (b := 4) hC X FX5_61 f20 rfl f21 dX5_objectIn_8 ?_
    refine m_iload_n hx hb hL dX5_objectIn_11 rfl ?_
    have hophreg := h3 (k : Int).toNat (by omega)
    by_cases hreg : A 14 (k : Int).toNat = -1
    · rw [hreg, oref_n] at hophreg
      refine c_aaldn (x := k) hC X f40 (Or.inl rfl) (by omega) (by omega) (by omega) hophreg dX5_objectIn_12 ?_
      refine c_astore_nn hx hb hL dX5_objectIn_13 (Nat.le_of_ble_eq_true rfl) (fun ls hL => ?_)
      refine m_aload_nq (x := none) hx hb hL dX5_objectIn_14 rfl ?_
      refine lv_ifnonnullN hx hb dX5_objectIn_15 ?_
      exact x_throw (is := 158) hC hl hxt hlk hxW hxZ X (by decide +kernel) x_wT.1 x_wT.2.1 x_wT.2.2.1 (by decide) hxW.1.2.2.2 x_wT.2.2.2.1 x_wT.2.2.2.2 hL.1 dX5_objectIn_18 dX5_objectIn_21 dX5_objectIn_22 dX5_objectIn_24 dX5_objectIn_27 (by decide) (Nat.le_of_ble_eq_true rfl) (by decide) (by decide) (by decide) (fun z9 hz9 => ⟨Or.inr ⟨rfl, hregk, hreg⟩, rfl, hz9⟩) (by decide) (by decide)
    · rw [oref_s hreg] at hophreg
      have hvb := And.intro (hK.1.1.b14 (k : Int).toNat) (hK.1.2.2.2.1 (k : Int).toNat (by omega))
      have hsb := (foo (A 14 (k : Int).toNat).toNat (by unfold nn; omega)).1
      refine c_aaldr (x := k) hC X f40 (Or.inl rfl) (by omega) (by omega) (by omega) hophreg dX5_objectIn_12 ?_
      refine c_astore_nr hx hb hL dX5_objectIn_13 (Nat.le_of_ble_eq_true rfl) (fun ls hL => ?_)
      refine m_aload_n hx hb hL dX5_objectIn_14 rfl ?_
      refine lv_ifnonnull (tgt := 28) hx hb dX5_objectIn_15 (by decide) ?_
      refine m_aload_n hx hb hL dX5_objectIn_28 rfl ?_
      exact x_ret (Nat.le_of_ble_eq_true rfl) (Nat.le_of_ble_eq_true rfl) (c_aretr hC X hr hlk ⟨⟨hregk, hreg⟩, rfl, rfl, rfl⟩ dX5_objectIn_29)

set_option maxHeartbeats 4000000 in
theorem k_X5_move {G : mG} {l : Launch} {z : Nat} {ρ : Nat → Nat} {μ : mM} {A : rS} {P Gs : Nat → Prop} {cy : Int} {a b : Int} (hl : l.stackTraces = false) (hc : CR A P cy μ) (hK : KK A P Gs) (ha0 : -2147483648 ≤ a ∧ a ≤ 2147483647) (hb0 : -2147483648 ≤ b ∧ b ≤ 2147483647) : MX (Cond.code yX5_move cX5_move 3 none) G l yX5_move 7 110 2 12 z ρ [.ref (ρ 0), .int (iv a), .int (iv b)] μ (yP (rReg a ∧ rReg b) (cR none (rMove A a b) P cy μ z)) (xP (¬ (rReg a ∧ rReg b)) XI False μ z) := by
  refine MX.of (by decide) (by simp [Value.category]) (Nat.le_of_ble_eq_true rfl) (Nat.le_of_ble_eq_true rfl) ?_
  intro p e s m args below meth c ls H locs hC hx hb hr hlk hxt hxW hxZ X hL
  obtain ⟨h1, h2, h3, h4, h5, h6, h7, h8, hcy0, hcy1⟩ := id hc
  obtain ⟨⟨f00, f01, f02⟩, ⟨f10, f11, f12⟩, ⟨f20, f21, f22⟩, ⟨f30, f40, f50⟩, frr, foo⟩ := id h1
  obtain ⟨g1, g3, g4, g5, g6, g7⟩ := id h2
  refine m_iload_n hx hb hL dX5_move_0 rfl ?_
  refine x_callS hC hxW hxZ X (k_X5_checkRegister (k := a) hl ha0) VX5_27 rfl ⟨by decide, by decide⟩ ⟨by decide, by decide⟩ hL.1 rfl (Nat.le_of_ble_eq_true rfl) dX5_move_1 (fun E ce q μx zx H locs hpx X hce hcv hcl => ?_) (fun v1 μ1 z1 H locs hp X => ?_)
  · obtain ⟨h9, rfl, hzx⟩ := hpx
    have hn9 : ¬ rReg a := h9.elim (fun q => q.2) (fun q => q.2.elim)
    have hE9 : E = XI := h9.elim (fun q => q.1) (fun q => q.2.elim)
    exact x_out hxt hlk X hce hcv hcl ⟨Or.inl ⟨hE9, fun q => hn9 q.1⟩, rfl, hzx⟩ (by decide) (by decide)
  · obtain ⟨hrega, rfl, hm_, hz_⟩ := hp
    have hm_ := hm_.symm
    have hz_ := hz_.symm
    subst hm_
    subst hz_
    refine m_iload_n hx hb hL dX5_move_4 rfl ?_
    refine x_callS hC hxW hxZ X (k_X5_checkRegister (k := b) hl hb0) VX5_27 rfl ⟨by decide, by decide⟩ ⟨by decide, by decide⟩ hL.1 rfl (Nat.le_of_ble_eq_true rfl) dX5_move_5 (fun E ce q μx zx H locs hpx X hce hcv hcl => ?_) (fun v5 μ5 z5 H locs hp X => ?_)
    · obtain ⟨h9, rfl, hzx⟩ := hpx
      have hn9 : ¬ rReg b := h9.elim (fun q => q.2) (fun q => q.2.elim)
      have hE9 : E = XI := h9.elim (fun q => q.1) (fun q => q.2.elim)
      exact x_out hxt hlk X hce hcv hcl ⟨Or.inl ⟨hE9, fun q => hn9 q.2⟩, rfl, hzx⟩ (by decide) (by decide)
    · obtain ⟨hregb, rfl, hm_, hz_⟩ := hp
      have hm_ := hm_.symm
      have hz_ := hz_.symm
      subst hm_
      subst hz_
      refine m_aload_n hx hb hL dX5_move_8 rfl ?_
      refine m_getr (b := 2) hC X FX5_26 f00 rfl f02 dX5_move_9 ?_
      refine m_getr (b := 4) hC X FX5_61 f20 rfl f21 dX5_move_12 ?_
      refine m_iload_n hx hb hL dX5_move_15 rfl ?_
      refine m_aload_n hx hb hL dX5_move_16 rfl ?_
      refine m_getr (b := 2) hC X FX5_26 f00 rfl f02 dX5_move_17 ?_
      refine m_getr (b := 4) hC X FX5_61 f20 rfl f21 dX5_move_20 ?_
      refine m_iload_n hx hb hL dX5_move_23 rfl ?_
      have hophreg := h3 (b : Int).toNat (by omega)
      by_cases hreg : A 14 (b : Int).toNat = -1
      · rw [hreg, oref_n] at hophreg
        refine c_aaldn (x := b) hC X f40 (Or.inl rfl) (by omega) (by omega) (by omega) hophreg dX5_move_24 ?_
        refine c_aastn (x := a) hC X f40 (by omega) (by omega) (by omega) dX5_move_25 (fun H locs X => ?_)
        exact x_ret (Nat.le_of_ble_eq_true rfl) (Nat.le_of_ble_eq_true rfl) (m_vret hC X hr hlk ⟨⟨hrega, hregb⟩, rfl, rfl, mv_CR hc hrega hregb (by rw [hreg]; rfl), (cfr.rf μ).Q (cad_f (by decide)) _ _⟩ dX5_move_26)
      · rw [oref_s hreg] at hophreg
        have hvb := And.intro (hK.1.1.b14 (b : Int).toNat) (hK.1.2.2.2.1 (b : Int).toNat (by omega))
        have hsb := (foo (A 14 (b : Int).toNat).toNat (by unfold nn; omega)).1
        refine c_aaldr (x := b) hC X f40 (Or.inl rfl) (by omega) (by omega) (by omega) hophreg dX5_move_24 ?_
        refine c_aastr (b := aOb (A 14 (b : Int).toNat).toNat) (x := a) hC X f40 (by omega) (by omega) (by omega) hsb dX5_move_25 (fun H locs X => ?_)
        exact x_ret (Nat.le_of_ble_eq_true rfl) (Nat.le_of_ble_eq_true rfl) (m_vret hC X hr hlk ⟨⟨hrega, hregb⟩, rfl, rfl, mv_CR hc hrega hregb (oref_s hreg), (cfr.rf μ).Q (cad_f (by decide)) _ _⟩ dX5_move_26)

set_option maxHeartbeats 4000000 in
theorem k_X5_drop {G : mG} {l : Launch} {z : Nat} {ρ : Nat → Nat} {μ : mM} {A : rS} {P Gs : Nat → Prop} {cy : Int} {a : Int} (hl : l.stackTraces = false) (hc : CR A P cy μ) (hK : KK A P Gs) (ha0 : -2147483648 ≤ a ∧ a ≤ 2147483647) : MX (Cond.code yX5_drop cX5_drop 3 (some .boolean)) G l yX5_drop 7 110 1 6 z ρ [.ref (ρ 0), .int (iv a)] μ (yP (rReg a) (cR (some (.int (iv (rDropV A a)))) (rDrop A a) P cy μ z)) (xP (¬ rReg a) XI False μ z) := by
  refine MX.of (by decide) (by simp [Value.category]) (Nat.le_of_ble_eq_true rfl) (Nat.le_of_ble_eq_true rfl) ?_
  intro p e s m args below meth c ls H locs hC hx hb hr hlk hxt hxW hxZ X hL
  obtain ⟨h1, h2, h3, h4, h5, h6, h7, h8, hcy0, hcy1⟩ := id hc
  obtain ⟨⟨f00, f01, f02⟩, ⟨f10, f11, f12⟩, ⟨f20, f21, f22⟩, ⟨f30, f40, f50⟩, frr, foo⟩ := id h1
  obtain ⟨g1, g3, g4, g5, g6, g7⟩ := id h2
  refine m_iload_n hx hb hL dX5_drop_0 rfl ?_
  refine x_callS hC hxW hxZ X (k_X5_checkRegister (k := a) hl ha0) VX5_27 rfl ⟨by decide, by decide⟩ ⟨by decide, by decide⟩ hL.1 rfl (Nat.le_of_ble_eq_true rfl) dX5_drop_1 (fun E ce q μx zx H locs hpx X hce hcv hcl => ?_) (fun v1 μ1 z1 H locs hp X => ?_)
  · obtain ⟨h9, rfl, hzx⟩ := hpx
    have hn9 : ¬ rReg a := h9.elim (fun q => q.2) (fun q => q.2.elim)
    have hE9 : E = XI := h9.elim (fun q => q.1) (fun q => q.2.elim)
    exact x_out hxt hlk X hce hcv hcl ⟨Or.inl ⟨hE9, hn9⟩, rfl, hzx⟩ (by decide) (by decide)
  · obtain ⟨hrega, rfl, hm_, hz_⟩ := hp
    have hm_ := hm_.symm
    have hz_ := hz_.symm
    subst hm_
    subst hz_
    refine m_aload_n hx hb hL dX5_drop_4 rfl ?_
    refine m_getr (b := 2) hC X FX5_26 f00 rfl f02 dX5_drop_5 ?_
    refine m_getr (b := 4) hC X FX5_61 f20 rfl f21 dX5_drop_8 ?_
    refine m_iload_n hx hb hL dX5_drop_11 rfl ?_
    have hophreg := h3 (a : Int).toNat (by omega)
    by_cases hreg : A 14 (a : Int).toNat = -1
    · rw [hreg, oref_n] at hophreg
      refine c_aaldn (x := a) hC X f40 (Or.inl rfl) (by omega) (by omega) (by omega) hophreg dX5_drop_12 ?_
      refine lv_ifnullN (tgt := 20) hx hb dX5_drop_13 (by decide) ?_
      refine lv_iconst (v := iv 0) hx hb dX5_drop_20 rfl ?_
      refine m_istore_n hx hb hL dX5_drop_21 (Nat.le_of_ble_eq_true rfl) (fun ls hL => ?_)
      refine m_aload_n hx hb hL dX5_drop_22 rfl ?_
      refine m_getr (b := 2) hC X FX5_26 f00 rfl f02 dX5_drop_23 ?_
      refine m_getr (b := 4) hC X FX5_61 f20 rfl f21 dX5_drop_26 ?_
      refine m_iload_n hx hb hL dX5_drop_29 rfl ?_
      refine lv_null hx hb dX5_drop_30 ?_
      refine c_aastn (x := a) hC X f40 (by omega) (by omega) (by omega) dX5_drop_31 (fun H locs X => ?_)
      refine m_iload_n hx hb hL dX5_drop_32 rfl ?_
      exact x_ret (Nat.le_of_ble_eq_true rfl) (Nat.le_of_ble_eq_true rfl) (m_zret hC X hr hlk (by decide) ⟨hrega, by unfold rDropV; rw [if_pos hrega, bZ_f (fun q => q hreg)], rfl, dr_CR hc hrega, (cfr.rf μ).Q (cad_f (by decide)) _ _⟩ dX5_drop_33)
    · rw [oref_s hreg] at hophreg
      refine c_aaldr (x := a) hC X f40 (Or.inl rfl) (by omega) (by omega) (by omega) hophreg dX5_drop_12 ?_
      refine lv_ifnull hx hb dX5_drop_13 ?_
      refine lv_iconst (v := iv 1) hx hb dX5_drop_16 rfl ?_
      refine lv_goto (tgt := 21) hx hb dX5_drop_17 (by decide) ?_
      refine m_istore_n hx hb hL dX5_drop_21 (Nat.le_of_ble_eq_true rfl) (fun ls hL => ?_)
      refine m_aload_n hx hb hL dX5_drop_22 rfl ?_
      refine m_getr (b := 2) hC X FX5_26 f00 rfl f02 dX5_drop_23 ?_
      refine m_getr (b := 4) hC X FX5_61 f20 rfl f21 dX5_drop_26 ?_
      refine m_iload_n hx hb hL dX5_drop_29 rfl ?_
      refine lv_null hx hb dX5_drop_30 ?_
      refine c_aastn (x := a) hC X f40 (by omega) (by omega) (by omega) dX5_drop_31 (fun H locs X => ?_)
      refine m_iload_n hx hb hL dX5_drop_32 rfl ?_
      exact x_ret (Nat.le_of_ble_eq_true rfl) (Nat.le_of_ble_eq_true rfl) (m_zret hC X hr hlk (by decide) ⟨hrega, by unfold rDropV; rw [if_pos hrega, bZ_t hreg], rfl, dr_CR hc hrega, (cfr.rf μ).Q (cad_f (by decide)) _ _⟩ dX5_drop_33)

set_option maxHeartbeats 4000000 in
theorem k_X5_read {G : mG} {l : Launch} {z : Nat} {ρ : Nat → Nat} {μ : mM} {A : rS} {P Gs : Nat → Prop} {cy : Int} {t f i : Int} (hl : l.stackTraces = false) (hc : CR A P cy μ) (hK : KK A P Gs) (ht0 : -2147483648 ≤ t ∧ t ≤ 2147483647) (hf0 : -2147483648 ≤ f ∧ f ≤ 2147483647) (hi0 : -2147483648 ≤ i ∧ i ≤ 2147483647) : MX (Cond.code yX5_read cX5_read 6 (some .int)) G l yX5_read 8 132 4 24 z ρ [.ref (ρ 0), .int (iv t), .int (iv f), .int (iv i)] μ (yP (rHF A t f f i = 0) (cR (some (.int (iv (rReadV A t f i)))) (rRead A t f i) P cy μ z)) (xP (rHF A t f f i = 1) XT (rHF A t f f i = 2) μ z) := by
  refine MX.of (by decide) (by simp [Value.category]) (Nat.le_of_ble_eq_true rfl) (Nat.le_of_ble_eq_true rfl) ?_
  intro p e s m args below meth c ls H locs hC hx hb hr hlk hxt hxW hxZ X hL
  obtain ⟨h1, h2, h3, h4, h5, h6, h7, h8, hcy0, hcy1⟩ := id hc
  obtain ⟨⟨f00, f01, f02⟩, ⟨f10, f11, f12⟩, ⟨f20, f21, f22⟩, ⟨f30, f40, f50⟩, frr, foo⟩ := id h1
  obtain ⟨g1, g3, g4, g5, g6, g7⟩ := id h2
  refine m_iload_n hx hb hL dX5_read_0 rfl ?_
  refine x_callS hC hxW hxZ X (k_X5_checkRegister (k := t) hl ht0) VX5_27 rfl ⟨by decide, by decide⟩ ⟨by decide, by decide⟩ hL.1 rfl (Nat.le_of_ble_eq_true rfl) dX5_read_1 (fun E ce q μx zx H locs hpx X hce hcv hcl => ?_) (fun v1 μ1 z1 H locs hp X => ?_)
  · obtain ⟨h9, rfl, hzx⟩ := hpx
    have hn9 : ¬ rReg t := h9.elim (fun q => q.2) (fun q => q.2.elim)
    have hE9 : E = XI := h9.elim (fun q => q.1) (fun q => q.2.elim)
    exact x_out hxt hlk X hce hcv hcl ⟨Or.inl ⟨hE9, (by unfold rHF; rw [if_neg (fun w => hn9 w.1)])⟩, rfl, hzx⟩ (by decide) (by decide)
  · obtain ⟨hregt, rfl, hm_, hz_⟩ := hp
    have hm_ := hm_.symm
    have hz_ := hz_.symm
    subst hm_
    subst hz_
    refine m_aload_n hx hb hL dX5_read_4 rfl ?_
    refine m_iload_n hx hb hL dX5_read_5 rfl ?_
    refine x_callV hC hxW hxZ X (k_X5_objectIn (k := f) hl hc hK hf0) VX5_69 f00 rfl ⟨by decide, by decide⟩ ⟨by decide, by decide⟩ hL.1 rfl (Nat.le_of_ble_eq_true rfl) dX5_read_6 (fun E ce q μx zx H locs hpx X hce hcv hcl => ?_) (fun v6 μ6 z6 H locs hp X => ?_)
    · obtain ⟨h9, rfl, hzx⟩ := hpx
      exact x_out hxt hlk X hce hcv hcl ⟨h9.imp (fun q => ⟨q.1, (by unfold rHF; rw [if_neg (fun w => q.2 w.2)])⟩) (fun q => ⟨q.1, (by unfold rHF; rw [if_pos ⟨hregt, q.2.1⟩, if_pos q.2.2])⟩), rfl, hzx⟩ (by decide) (by decide)
    · obtain ⟨⟨hregf, hne⟩, rfl, hm_, hz_⟩ := hp
      have hm_ := hm_.symm
      have hz_ := hz_.symm
      subst hm_
      subst hz_
      obtain ⟨o, ho14, ho, hGo⟩ := reg_ob hK hregf hne
      rw [show (A 14 (f : Int).toNat).toNat = o by omega]
      obtain ⟨o1, o2, o3, o4⟩ := foo o ho
      obtain ⟨oh, oo, ⟨ov, os, osa, osb, osc⟩, ⟨ow, of, ofa, ofb, ofc⟩, oz⟩ := h8 o ho
      have ho9 := (hK.1.2.1 o ho).1
      have hb9 := hK.1.1.b9 o
      refine c_astorer hx hb hL dX5_read_9 (Nat.le_of_ble_eq_true rfl) (fun ls hL => ?_)
      refine m_aload hx hb hL dX5_read_11 rfl ?_
      refine m_iload_n hx hb hL dX5_read_13 rfl ?_
      refine x_callS hC hxW hxZ X (k_X5_checkField (o := aOb o) (f := aFd o) (n := (A 9 o - 2).toNat) (i := i) hl o1 o2 o3 (by omega) hi0) VX5_73 rfl ⟨by decide, by decide⟩ ⟨by decide, by decide⟩ hL.1 rfl (Nat.le_of_ble_eq_true rfl) dX5_read_14 (fun E ce q μx zx H locs hpx X hce hcv hcl => ?_) (fun v14 μ14 z14 H locs hp X => ?_)
      · obtain ⟨h9, rfl, hzx⟩ := hpx
        have hn9 : ¬ (0 ≤ i ∧ i < (((A 9 o - 2).toNat : Nat) : Int)) := h9.elim (fun q => q.2) (fun q => q.2.elim)
        have hE9 : E = XI := h9.elim (fun q => q.1) (fun q => q.2.elim)
        exact x_out hxt hlk X hce hcv hcl ⟨Or.inl ⟨hE9, (by unfold rHF; rw [if_pos ⟨hregt, hregf⟩, if_neg hne, ho14]; simp only [Int.toNat_natCast]; rw [if_neg (by omega)])⟩, rfl, hzx⟩ (by decide) (by decide)
      · obtain ⟨hfld, rfl, hm_, hz_⟩ := hp
        have hm_ := hm_.symm
        have hz_ := hz_.symm
        subst hm_
        subst hz_
        have hfl : 0 ≤ i ∧ i < A 9 o - 2 := by omega
        have hofl := oz (i : Int).toNat (by omega)
        refine m_aload hx hb hL dX5_read_17 rfl ?_
        refine m_getr (b := aFd o) hC X FX5_77 o1 rfl o2 dX5_read_19 ?_
        refine m_iload_n hx hb hL dX5_read_22 rfl ?_
        have hophfv := hofl
        by_cases hfv : A 11 (21 * o + (i : Int).toNat) = -1
        · rw [hfv, oref_n] at hophfv
          refine c_aaldn (x := i) hC X o3 (Or.inl rfl) (by omega) (by omega) (by omega) hophfv dX5_read_23 ?_
          refine c_astoren hx hb hL dX5_read_24 (Nat.le_of_ble_eq_true rfl) (fun ls hL => ?_)
          refine m_aload_n hx hb hL dX5_read_26 rfl ?_
          refine m_getr (b := 2) hC X FX5_26 f00 rfl f02 dX5_read_27 ?_
          refine m_getr (b := 4) hC X FX5_61 f20 rfl f21 dX5_read_30 ?_
          refine m_iload_n hx hb hL dX5_read_33 rfl ?_
          refine m_aloadq (x := none) hx hb hL dX5_read_34 rfl ?_
          refine c_aastn (x := t) hC X f40 (by omega) (by omega) (by omega) dX5_read_36 (fun H locs X => ?_)
          refine m_aloadq (x := none) hx hb hL dX5_read_37 rfl ?_
          refine c_callS hC X (k_X5_tagOf_n) VX5_80 rfl ⟨by decide, by decide⟩ ⟨by decide, by decide⟩ hL.1 rfl (Nat.le_of_ble_eq_true rfl) dX5_read_39 (fun v39 μ39 z39 H locs hp X => ?_)
          obtain ⟨rfl, hm_, hz_⟩ := hp
          have hm_ := hm_.symm
          have hz_ := hz_.symm
          subst hm_
          subst hz_
          have hF := rd_CR (t := t) (w := none) hc hregt hregf ho14 hfl (by rw [hfv]; rfl)
          exact x_ret (Nat.le_of_ble_eq_true rfl) (Nat.le_of_ble_eq_true rfl) (m_iret hC X hr hlk ⟨rHF_is hregt hregf ho14 hfl, by rw [hF.2]; unfold rTagOf; rw [if_pos hfv], rfl, hF.1, (cfr.rf μ).Q (cad_f (by decide)) _ _⟩ dX5_read_42)
        · rw [oref_s hfv] at hophfv
          have hfb := fld_ob (i := (i : Int).toNat) hK ho hGo (by omega)
          obtain ⟨v1, v2, v3, v4⟩ := foo (A 11 (21 * o + (i : Int).toNat)).toNat (by unfold nn; omega)
          refine c_aaldr (x := i) hC X o3 (Or.inl rfl) (by omega) (by omega) (by omega) hophfv dX5_read_23 ?_
          refine c_astorer hx hb hL dX5_read_24 (Nat.le_of_ble_eq_true rfl) (fun ls hL => ?_)
          refine m_aload_n hx hb hL dX5_read_26 rfl ?_
          refine m_getr (b := 2) hC X FX5_26 f00 rfl f02 dX5_read_27 ?_
          refine m_getr (b := 4) hC X FX5_61 f20 rfl f21 dX5_read_30 ?_
          refine m_iload_n hx hb hL dX5_read_33 rfl ?_
          refine m_aload hx hb hL dX5_read_34 rfl ?_
          refine c_aastr (b := aOb (A 11 (21 * o + (i : Int).toNat)).toNat) (x := t) hC X f40 (by omega) (by omega) (by omega) v1 dX5_read_36 (fun H locs X => ?_)
          refine m_aload hx hb hL dX5_read_37 rfl ?_
          refine c_callS hC X (k_X5_tagOf_s (o := aOb (A 11 (21 * o + (i : Int).toNat)).toNat) (t := A 10 (A 11 (21 * o + (i : Int).toNat)).toNat) v1 (by rw [mi_Q]; exact v4)) VX5_80 rfl ⟨by decide, by decide⟩ ⟨by decide, by decide⟩ hL.1 rfl (Nat.le_of_ble_eq_true rfl) dX5_read_39 (fun v39 μ39 z39 H locs hp X => ?_)
          obtain ⟨rfl, hm_, hz_⟩ := hp
          have hm_ := hm_.symm
          have hz_ := hz_.symm
          subst hm_
          subst hz_
          have hF := rd_CR (t := t) (w := some (aOb (A 11 (21 * o + (i : Int).toNat)).toNat)) hc hregt hregf ho14 hfl (oref_s hfv)
          exact x_ret (Nat.le_of_ble_eq_true rfl) (Nat.le_of_ble_eq_true rfl) (m_iret hC X hr hlk ⟨rHF_is hregt hregf ho14 hfl, by rw [hF.2]; unfold rTagOf; rw [if_neg hfv], rfl, hF.1, (cfr.rf μ).Q (cad_f (by decide)) _ _⟩ dX5_read_42)

set_option maxHeartbeats 4000000 in
theorem k_X5_tag {G : mG} {l : Launch} {z : Nat} {ρ : Nat → Nat} {μ : mM} {A : rS} {P Gs : Nat → Prop} {cy : Int} {k : Int} (hl : l.stackTraces = false) (hc : CR A P cy μ) (hK : KK A P Gs) (hk0 : -2147483648 ≤ k ∧ k ≤ 2147483647) : MX (Cond.code yX5_tag cX5_tag 2 (some .int)) G l yX5_tag 8 132 2 12 z ρ [.ref (ρ 0), .int (iv k)] μ (yP (rTagT A k = 0) (cP (some (.int (iv (rTagV A k)))) μ z)) (xP (rTagT A k = 1) XT (rTagT A k = 2) μ z) := by
  refine MX.of (by decide) (by simp [Value.category]) (Nat.le_of_ble_eq_true rfl) (Nat.le_of_ble_eq_true rfl) ?_
  intro p e s m args below meth c ls H locs hC hx hb hr hlk hxt hxW hxZ X hL
  obtain ⟨h1, h2, h3, h4, h5, h6, h7, h8, hcy0, hcy1⟩ := id hc
  obtain ⟨⟨f00, f01, f02⟩, ⟨f10, f11, f12⟩, ⟨f20, f21, f22⟩, ⟨f30, f40, f50⟩, frr, foo⟩ := id h1
  obtain ⟨g1, g3, g4, g5, g6, g7⟩ := id h2
  refine m_aload_n hx hb hL dX5_tag_0 rfl ?_
  refine m_iload_n hx hb hL dX5_tag_1 rfl ?_
  refine x_callV hC hxW hxZ X (k_X5_objectIn (k := k) hl hc hK hk0) VX5_69 f00 rfl ⟨by decide, by decide⟩ ⟨by decide, by decide⟩ hL.1 rfl (Nat.le_of_ble_eq_true rfl) dX5_tag_2 (fun E ce q μx zx H locs hpx X hce hcv hcl => ?_) (fun v2 μ2 z2 H locs hp X => ?_)
  · obtain ⟨h9, rfl, hzx⟩ := hpx
    exact x_out hxt hlk X hce hcv hcl ⟨h9.imp (fun q => ⟨q.1, (by unfold rTagT; rw [if_neg q.2])⟩) (fun q => ⟨q.1, (by unfold rTagT; rw [if_pos q.2.1, if_pos q.2.2])⟩), rfl, hzx⟩ (by decide) (by decide)
  · obtain ⟨⟨hregk, hne⟩, rfl, hm_, hz_⟩ := hp
    have hm_ := hm_.symm
    have hz_ := hz_.symm
    subst hm_
    subst hz_
    obtain ⟨o, ho14, ho, hGo⟩ := reg_ob hK hregk hne
    rw [show (A 14 (k : Int).toNat).toNat = o by omega]
    obtain ⟨o1, o2, o3, o4⟩ := foo o ho
    obtain ⟨oh, oo, ⟨ov, os, osa, osb, osc⟩, ⟨ow, of, ofa, ofb, ofc⟩, oz⟩ := h8 o ho
    have ho9 := (hK.1.2.1 o ho).1
    have hb9 := hK.1.1.b9 o
    refine c_geti (x := (A 10 o)) hC X FX5_87 o1 rfl o4 dX5_tag_5 ?_
    have hT : rTagT A k = 0 := by unfold rTagT; rw [if_pos hregk, if_neg hne]
    exact x_ret (Nat.le_of_ble_eq_true rfl) (Nat.le_of_ble_eq_true rfl) (m_iret hC X hr hlk ⟨hT, by unfold rTagV; rw [if_pos hT, ho14]; rfl, rfl, rfl⟩ dX5_tag_8)

set_option maxHeartbeats 4000000 in
theorem k_X5_where {G : mG} {l : Launch} {z : Nat} {ρ : Nat → Nat} {μ : mM} {A : rS} {P Gs : Nat → Prop} {cy : Int} {k : Int} (hl : l.stackTraces = false) (hc : CR A P cy μ) (hK : KK A P Gs) (hk0 : -2147483648 ≤ k ∧ k ≤ 2147483647) : MX (Cond.code yX5_where cX5_where 2 (some .int)) G l yX5_where 7 110 1 6 z ρ [.ref (ρ 0), .int (iv k)] μ (yP (rReg k) (cP (some (.int (iv (rWhereV A k)))) μ z)) (xP (¬ rReg k) XI False μ z) := by
  refine MX.of (by decide) (by simp [Value.category]) (Nat.le_of_ble_eq_true rfl) (Nat.le_of_ble_eq_true rfl) ?_
  intro p e s m args below meth c ls H locs hC hx hb hr hlk hxt hxW hxZ X hL
  obtain ⟨h1, h2, h3, h4, h5, h6, h7, h8, hcy0, hcy1⟩ := id hc
  obtain ⟨⟨f00, f01, f02⟩, ⟨f10, f11, f12⟩, ⟨f20, f21, f22⟩, ⟨f30, f40, f50⟩, frr, foo⟩ := id h1
  obtain ⟨g1, g3, g4, g5, g6, g7⟩ := id h2
  refine m_iload_n hx hb hL dX5_where_0 rfl ?_
  refine x_callS hC hxW hxZ X (k_X5_checkRegister (k := k) hl hk0) VX5_27 rfl ⟨by decide, by decide⟩ ⟨by decide, by decide⟩ hL.1 rfl (Nat.le_of_ble_eq_true rfl) dX5_where_1 (fun E ce q μx zx H locs hpx X hce hcv hcl => ?_) (fun v1 μ1 z1 H locs hp X => ?_)
  · obtain ⟨h9, rfl, hzx⟩ := hpx
    have hn9 : ¬ rReg k := h9.elim (fun q => q.2) (fun q => q.2.elim)
    have hE9 : E = XI := h9.elim (fun q => q.1) (fun q => q.2.elim)
    exact x_out hxt hlk X hce hcv hcl ⟨Or.inl ⟨hE9, hn9⟩, rfl, hzx⟩ (by decide) (by decide)
  · obtain ⟨hregk, rfl, hm_, hz_⟩ := hp
    have hm_ := hm_.symm
    have hz_ := hz_.symm
    subst hm_
    subst hz_
    refine m_aload_n hx hb hL dX5_where_4 rfl ?_
    refine m_getr (b := 2) hC X FX5_26 f00 rfl f02 dX5_where_5 ?_
    refine m_getr (b := 4) hC X FX5_61 f20 rfl f21 dX5_where_8 ?_
    refine m_iload_n hx hb hL dX5_where_11 rfl ?_
    have hop := h3 (k : Int).toNat (by omega)
    by_cases hreg : A 14 (k : Int).toNat = -1
    · rw [hreg, oref_n] at hop
      refine c_aaldn (x := k) hC X f40 (Or.inl rfl) (by omega) (by omega) (by omega) hop dX5_where_12 ?_
      refine c_callS hC X (k_X5_placeOf_n) VX5_65 rfl ⟨by decide, by decide⟩ ⟨by decide, by decide⟩ hL.1 rfl (Nat.le_of_ble_eq_true rfl) dX5_where_13 (fun v13 μ13 z13 H locs hp X => ?_)
      obtain ⟨rfl, hm_, hz_⟩ := hp
      have hm_ := hm_.symm
      have hz_ := hz_.symm
      subst hm_
      subst hz_
      exact x_ret (Nat.le_of_ble_eq_true rfl) (Nat.le_of_ble_eq_true rfl) (m_iret hC X hr hlk ⟨hregk, by unfold rWhereV; rw [if_pos hregk]; unfold rPlace; rw [if_pos hreg], rfl, rfl⟩ dX5_where_16)
    · obtain ⟨o, ho14, ho, hGo⟩ := reg_ob hK hregk hreg
      rw [oref_s hreg, show (A 14 (k : Int).toNat).toNat = o by omega] at hop
      obtain ⟨o1, o2, o3, o4⟩ := foo o ho
      obtain ⟨oh, oo, ⟨ov, os, osa, osb, osc⟩, ⟨ow, of, ofa, ofb, ofc⟩, oz⟩ := h8 o ho
      have ho7 := (hK.1.2.1 o ho).2
      have hb7 := hK.1.1.b7 o
      obtain ⟨r1, r2, r3, r4, r5⟩ := frr (A 7 o).toNat (by unfold RN; omega)
      refine c_aaldr (x := k) hC X f40 (Or.inl rfl) (by omega) (by omega) (by omega) hop dX5_where_12 ?_
      refine c_callS hC X (k_X5_placeOf_s (o := aOb o) (r := aRg (A 7 o).toNat) (n := ((A 7 o).toNat : Int)) (f := A 8 o) o1 r2 oh r5 oo) VX5_65 rfl ⟨by decide, by decide⟩ ⟨by decide, by decide⟩ hL.1 rfl (Nat.le_of_ble_eq_true rfl) dX5_where_13 (fun v13 μ13 z13 H locs hp X => ?_)
      obtain ⟨rfl, hm_, hz_⟩ := hp
      have hm_ := hm_.symm
      have hz_ := hz_.symm
      subst hm_
      subst hz_
      exact x_ret (Nat.le_of_ble_eq_true rfl) (Nat.le_of_ble_eq_true rfl) (m_iret hC X hr hlk ⟨hregk, by unfold rWhereV; rw [if_pos hregk]; unfold rPlace; rw [if_neg hreg, ho14, show (((A 7 o).toNat : Nat) : Int) = A 7 o by omega]; simp only [Int.toNat_natCast], rfl, rfl⟩ dX5_where_16)

