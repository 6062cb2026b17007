/-! the class's leaves over the memory (printed by wip/tools/cls1.py) -/
set_option maxHeartbeats 4000000 in
theorem k_X1_words {G : mG} {l : Launch} {z : Nat} {ρ : Nat → Nat} {μ : mM} {o f n : Nat} (ho : sh μ o = some (.inl 1)) (hf : mq μ o 1 = some f) (hs : sh μ f = some (.inr (3, n))) : MZ G l yX1_words cX1_words 1 (some .int) 0 0 z ρ [.ref (ρ o)] μ (cP (some (.int (iv ((n : Int) + 2)))) μ z) := by
  refine MZ.of (by decide) (by simp [Value.category]) (Nat.le_of_ble_eq_true rfl) (Nat.le_of_ble_eq_true rfl) ?_
  intro p e s m args below meth c ls H locs hC hx hb hr hlk X hL
  refine m_aload_n hx hb hL dX1_words_0 rfl ?_
  refine m_getr (b := f) hC X FX1_19 ho rfl hf dX1_words_1 ?_
  refine c_alen hC X hs (by decide) dX1_words_4 ?_
  refine lv_iconst (v := iv 2) hx hb dX1_words_5 rfl ?_
  refine m_iadd hx hb dX1_words_6 ?_
  exact m_iret hC X hr hlk ⟨rfl, rfl, rfl⟩ dX1_words_7

set_option maxHeartbeats 4000000 in
theorem k_X3_hasRoom {G : mG} {l : Launch} {z : Nat} {ρ : Nat → Nat} {μ : mM} {r : Nat} {x u : Int} (h3 : sh μ r = some (.inl 3)) (hu : mi μ r 3 = iv u) (hb0 : 0 ≤ u ∧ u ≤ 128) (hx0 : 0 ≤ x ∧ x ≤ 22) : MZ G l yX3_hasRoom cX3_hasRoom 2 (some .boolean) 0 0 z ρ [.ref (ρ r), .int (iv x)] μ (cP (some (.int (iv (bZ (u + x ≤ 128))))) μ z) := by
  refine MZ.of (by decide) (by simp [Value.category]) (Nat.le_of_ble_eq_true rfl) (Nat.le_of_ble_eq_true rfl) ?_
  intro p e s m args below meth c ls H locs hC hx hb hr hlk X hL
  refine m_aload_n hx hb hL dX3_hasRoom_0 rfl ?_
  refine c_geti (x := u) hC X FX3_24 h3 rfl hu dX3_hasRoom_1 ?_
  refine m_iload_n hx hb hL dX3_hasRoom_4 rfl ?_
  refine m_iadd hx hb dX3_hasRoom_5 ?_
  refine lv_sipush (v := iv 128) hx hb dX3_hasRoom_6 (by decide +kernel) ?_
  refine m_icmp_gt (tgt := 16) hx hb dX3_hasRoom_9 (by decide) (by omega) (by omega) (fun c9 => ?_) (fun c9 => ?_)
  · refine lv_iconst (v := iv 0) hx hb dX3_hasRoom_16 rfl ?_
    exact m_zret hC X hr hlk (by decide) ⟨by first | rw [bZ_t (by omega)] | rw [bZ_f (by omega)], rfl, rfl⟩ dX3_hasRoom_17
  · refine lv_iconst (v := iv 1) hx hb dX3_hasRoom_12 rfl ?_
    refine lv_goto (tgt := 17) hx hb dX3_hasRoom_13 (by decide) ?_
    exact m_zret hC X hr hlk (by decide) ⟨by first | rw [bZ_t (by omega)] | rw [bZ_f (by omega)], rfl, rfl⟩ dX3_hasRoom_17

set_option maxHeartbeats 4000000 in
theorem k_X3_append {G : mG} {l : Launch} {z : Nat} {ρ : Nat → Nat} {μ : mM} {r o q f n : Nat} {u : Int} (h3 : sh μ r = some (.inl 3)) (ho : sh μ o = some (.inl 1)) (hq : sh μ q = some (.inr (3, 128))) (hf : mq μ o 1 = some f) (hs : sh μ f = some (.inr (3, n))) (hu : mi μ r 3 = iv u) (hr1 : mq μ r 1 = some q) (hb0 : 0 ≤ u ∧ u < 128) : MZ G l yX3_append cX3_append 2 none 1 20 z ρ [.ref (ρ r), .ref (ρ o)] μ (cP none (setI (setQ (setI (setQ μ o 2 (some r)) o 3 (iv u)) q (u : Int).toNat (some o)) r 3 (iv (u + ((n : Int) + 2)))) z) := by
  refine MZ.of (by decide) (by simp [Value.category]) (Nat.le_of_ble_eq_true rfl) (Nat.le_of_ble_eq_true rfl) ?_
  intro p e s m args below meth c ls H locs hC hx hb hr hlk X hL
  have nro : r ≠ o := fun e => by rw [e, ho] at h3; cases h3
  have nrq : r ≠ q := fun e => by rw [e, hq] at h3; cases h3
  have noq : o ≠ q := fun e => by rw [e, hq] at ho; cases ho
  refine m_aload_n hx hb hL dX3_append_0 rfl ?_
  refine m_aload_n hx hb hL dX3_append_1 rfl ?_
  refine c_putr (b := r) hC X FwX3_27 ho rfl (by decide) h3 rfl dX3_append_2 (fun H locs X => ?_)
  refine m_aload_n hx hb hL dX3_append_5 rfl ?_
  refine m_aload_n hx hb hL dX3_append_6 rfl ?_
  refine c_geti (x := u) hC X FX3_24 h3 rfl (by rw [mi_Q]; exact hu) dX3_append_7 ?_
  refine c_puti (x := u) hC X FwX3_31 ho rfl dX3_append_10 (fun H locs X => ?_)
  refine m_aload_n hx hb hL dX3_append_13 rfl ?_
  refine m_getr (b := q) hC X FX3_17 h3 rfl (by rw [mq_I, mq_Q, if_neg (fun q => absurd q.2 (by decide))]; exact hr1) dX3_append_14 ?_
  refine m_aload_n hx hb hL dX3_append_17 rfl ?_
  refine c_geti (x := u) hC X FX3_24 h3 rfl (by rw [mi_I, if_neg (fun q => nro q.1), mi_Q]; exact hu) dX3_append_18 ?_
  refine m_aload_n hx hb hL dX3_append_21 rfl ?_
  refine c_aastr (b := o) (x := u) hC X hq (by omega) (by omega) (by omega) ho dX3_append_22 (fun H locs X => ?_)
  refine m_aload_n hx hb hL dX3_append_23 rfl ?_
  refine lv_dup hx hb dX3_append_24 rfl ?_
  refine c_geti (x := u) hC X FX3_24 h3 rfl (by rw [mi_Q, mi_I, if_neg (fun q => nro q.1), mi_Q]; exact hu) dX3_append_25 ?_
  refine m_aload_n hx hb hL dX3_append_28 rfl ?_
  refine c_callV hC X (k_X1_words (f := f) (n := n) ho ((by rw [mq_Q, if_neg (fun q => noq q.1), mq_I, mq_Q, if_neg (fun q => absurd q.2 (by decide))]; exact hf)) hs) VX3_34 ho rfl ⟨by decide, by decide⟩ ⟨by decide, by decide⟩ hL.1 rfl (Nat.le_of_ble_eq_true rfl) dX3_append_29 (fun v29 μ29 z29 H locs hp X => ?_)
  obtain ⟨rfl, rfl, rfl⟩ := hp
  refine m_iadd hx hb dX3_append_32 ?_
  refine c_puti (x := (u + ((n : Int) + 2))) hC X FwX3_24 h3 rfl dX3_append_33 (fun H locs X => ?_)
  exact m_vret hC X hr hlk ⟨rfl, rfl, rfl⟩ dX3_append_36

set_option maxHeartbeats 4000000 in
theorem k_X3_enterSet {G : mG} {l : Launch} {z : Nat} {ρ : Nat → Nat} {μ : mM} {r : Nat} (h3 : sh μ r = some (.inl 3)) : MZ G l yX3_enterSet cX3_enterSet 1 none 0 0 z ρ [.ref (ρ r)] μ (cP none (setI (setI (setI μ r 2 (iv 4)) r 4 (iv 0)) r 5 (iv 0)) z) := by
  refine MZ.of (by decide) (by simp [Value.category]) (Nat.le_of_ble_eq_true rfl) (Nat.le_of_ble_eq_true rfl) ?_
  intro p e s m args below meth c ls H locs hC hx hb hr hlk X hL
  refine m_aload_n hx hb hL dX3_enterSet_0 rfl ?_
  refine lv_iconst (v := iv 4) hx hb dX3_enterSet_1 rfl ?_
  refine c_puti (x := 4) hC X FwX3_21 h3 rfl dX3_enterSet_2 (fun H locs X => ?_)
  refine m_aload_n hx hb hL dX3_enterSet_5 rfl ?_
  refine lv_iconst (v := iv 0) hx hb dX3_enterSet_6 rfl ?_
  refine c_puti (x := 0) hC X FwX3_41 h3 rfl dX3_enterSet_7 (fun H locs X => ?_)
  refine m_aload_n hx hb hL dX3_enterSet_10 rfl ?_
  refine lv_iconst (v := iv 0) hx hb dX3_enterSet_11 rfl ?_
  refine c_putz (x := 0) hC X FwX3_44 h3 rfl (by omega) dX3_enterSet_12 (fun H locs X => ?_)
  exact m_vret hC X hr hlk ⟨rfl, rfl, rfl⟩ dX3_enterSet_15

set_option maxHeartbeats 4000000 in
theorem k_X2_closeTarget_n {G : mG} {l : Launch} {z : Nat} {ρ : Nat → Nat} {μ : mM} {a : Nat} (h2 : sh μ a = some (.inl 2)) (ht : mq μ a 3 = none) : MZ G l yX2_closeTarget cX2_closeTarget 1 none 0 0 z ρ [.ref (ρ a)] μ (cP none μ z) := by
  refine MZ.of (by decide) (by simp [Value.category]) (Nat.le_of_ble_eq_true rfl) (Nat.le_of_ble_eq_true rfl) ?_
  intro p e s m args below meth c ls H locs hC hx hb hr hlk X hL
  refine m_aload_n hx hb hL dX2_closeTarget_0 rfl ?_
  refine c_getn hC X FX2_42 h2 rfl ht dX2_closeTarget_1 ?_
  refine lv_ifnullN (tgt := 20) hx hb dX2_closeTarget_4 (by decide) ?_
  exact m_vret hC X hr hlk ⟨rfl, rfl, rfl⟩ dX2_closeTarget_20

set_option maxHeartbeats 4000000 in
theorem k_X2_closeTarget_s {G : mG} {l : Launch} {z : Nat} {ρ : Nat → Nat} {μ : mM} {a t : Nat} (h2 : sh μ a = some (.inl 2)) (h3 : sh μ t = some (.inl 3)) (ht : mq μ a 3 = some t) : MZ G l yX2_closeTarget cX2_closeTarget 1 none 0 0 z ρ [.ref (ρ a)] μ (cP none (setQ (setI μ t 2 (iv 3)) a 3 none) z) := by
  refine MZ.of (by decide) (by simp [Value.category]) (Nat.le_of_ble_eq_true rfl) (Nat.le_of_ble_eq_true rfl) ?_
  intro p e s m args below meth c ls H locs hC hx hb hr hlk X hL
  refine m_aload_n hx hb hL dX2_closeTarget_0 rfl ?_
  refine m_getr (b := t) hC X FX2_42 h2 rfl ht dX2_closeTarget_1 ?_
  refine lv_ifnull hx hb dX2_closeTarget_4 ?_
  refine m_aload_n hx hb hL dX2_closeTarget_7 rfl ?_
  refine m_getr (b := t) hC X FX2_42 h2 rfl ht dX2_closeTarget_8 ?_
  refine lv_iconst (v := iv 3) hx hb dX2_closeTarget_11 rfl ?_
  refine c_puti (x := 3) hC X FwX2_26 h3 rfl dX2_closeTarget_12 (fun H locs X => ?_)
  refine m_aload_n hx hb hL dX2_closeTarget_15 rfl ?_
  refine lv_null hx hb dX2_closeTarget_16 ?_
  refine c_putn hC X FwX2_42 h2 rfl (by decide) dX2_closeTarget_17 (fun H locs X => ?_)
  exact m_vret hC X hr hlk ⟨rfl, rfl, rfl⟩ dX2_closeTarget_20

set_option maxHeartbeats 4000000 in
theorem k_X4_append_n {G : mG} {l : Launch} {z : Nat} {ρ : Nat → Nat} {μ : mM} {w o : Nat} {n : Int} (h4 : sh μ w = some (.inl 4)) (ho : sh μ o = some (.inl 1)) (hl : mq μ w 1 = none) (hn : mi μ w 2 = iv n) : MZ G l yX4_append cX4_append 2 none 0 0 z ρ [.ref (ρ w), .ref (ρ o)] μ (cP none (setI (setQ (setQ μ w 0 (some o)) w 1 (some o)) w 2 (iv (n + 1))) z) := by
  refine MZ.of (by decide) (by simp [Value.category]) (Nat.le_of_ble_eq_true rfl) (Nat.le_of_ble_eq_true rfl) ?_
  intro p e s m args below meth c ls H locs hC hx hb hr hlk X hL
  refine m_aload_n hx hb hL dX4_append_0 rfl ?_
  refine c_getn hC X FX4_7 h4 rfl hl dX4_append_1 ?_
  refine lv_ifnonnullN hx hb dX4_append_4 ?_
  refine m_aload_n hx hb hL dX4_append_7 rfl ?_
  refine m_aload_n hx hb hL dX4_append_8 rfl ?_
  refine c_putr (b := o) hC X FwX4_13 h4 rfl (by decide) ho rfl dX4_append_9 (fun H locs X => ?_)
  refine lv_goto (tgt := 23) hx hb dX4_append_12 (by decide) ?_
  refine m_aload_n hx hb hL dX4_append_23 rfl ?_
  refine m_aload_n hx hb hL dX4_append_24 rfl ?_
  refine c_putr (b := o) hC X FwX4_7 h4 rfl (by decide) ho rfl dX4_append_25 (fun H locs X => ?_)
  refine m_aload_n hx hb hL dX4_append_28 rfl ?_
  refine lv_dup hx hb dX4_append_29 rfl ?_
  refine c_geti (x := n) hC X FX4_21 h4 rfl (by rw [mi_Q, mi_Q]; exact hn) dX4_append_30 ?_
  refine lv_iconst (v := iv 1) hx hb dX4_append_33 rfl ?_
  refine m_iadd hx hb dX4_append_34 ?_
  refine c_puti (x := (n + 1)) hC X FwX4_21 h4 rfl dX4_append_35 (fun H locs X => ?_)
  exact m_vret hC X hr hlk ⟨rfl, rfl, rfl⟩ dX4_append_38

set_option maxHeartbeats 4000000 in
theorem k_X4_append_s {G : mG} {l : Launch} {z : Nat} {ρ : Nat → Nat} {μ : mM} {w o q : Nat} {n : Int} (h4 : sh μ w = some (.inl 4)) (ho : sh μ o = some (.inl 1)) (hq : sh μ q = some (.inl 1)) (hl : mq μ w 1 = some q) (hn : mi μ w 2 = iv n) : MZ G l yX4_append cX4_append 2 none 0 0 z ρ [.ref (ρ w), .ref (ρ o)] μ (cP none (setI (setQ (setQ μ q 6 (some o)) w 1 (some o)) w 2 (iv (n + 1))) z) := by
  refine MZ.of (by decide) (by simp [Value.category]) (Nat.le_of_ble_eq_true rfl) (Nat.le_of_ble_eq_true rfl) ?_
  intro p e s m args below meth c ls H locs hC hx hb hr hlk X hL
  have nwq : w ≠ q := fun e => by rw [e, hq] at h4; cases h4
  refine m_aload_n hx hb hL dX4_append_0 rfl ?_
  refine m_getr (b := q) hC X FX4_7 h4 rfl hl dX4_append_1 ?_
  refine lv_ifnonnull (tgt := 15) hx hb dX4_append_4 (by decide) ?_
  refine m_aload_n hx hb hL dX4_append_15 rfl ?_
  refine m_getr (b := q) hC X FX4_7 h4 rfl hl dX4_append_16 ?_
  refine m_aload_n hx hb hL dX4_append_19 rfl ?_
  refine c_putr (b := o) hC X FwX4_16 hq rfl (by decide) ho rfl dX4_append_20 (fun H locs X => ?_)
  refine m_aload_n hx hb hL dX4_append_23 rfl ?_
  refine m_aload_n hx hb hL dX4_append_24 rfl ?_
  refine c_putr (b := o) hC X FwX4_7 h4 rfl (by decide) ho rfl dX4_append_25 (fun H locs X => ?_)
  refine m_aload_n hx hb hL dX4_append_28 rfl ?_
  refine lv_dup hx hb dX4_append_29 rfl ?_
  refine c_geti (x := n) hC X FX4_21 h4 rfl (by rw [mi_Q, mi_Q]; exact hn) dX4_append_30 ?_
  refine lv_iconst (v := iv 1) hx hb dX4_append_33 rfl ?_
  refine m_iadd hx hb dX4_append_34 ?_
  refine c_puti (x := (n + 1)) hC X FwX4_21 h4 rfl dX4_append_35 (fun H locs X => ?_)
  exact m_vret hC X hr hlk ⟨rfl, rfl, rfl⟩ dX4_append_38

set_option maxHeartbeats 4000000 in
theorem k_X4_takeFirst_n {G : mG} {l : Launch} {z : Nat} {ρ : Nat → Nat} {μ : mM} {w : Nat} (h4 : sh μ w = some (.inl 4)) (hl : mq μ w 0 = none) : MZ G l yX4_takeFirst cX4_takeFirst 2 (some (.object "ForwardHeap$HeapObject")) 0 0 z ρ [.ref (ρ w)] μ (cP (some .null) μ z) := by
  refine MZ.of (by decide) (by simp [Value.category]) (Nat.le_of_ble_eq_true rfl) (Nat.le_of_ble_eq_true rfl) ?_
  intro p e s m args below meth c ls H locs hC hx hb hr hlk X hL
  refine m_aload_n hx hb hL dX4_takeFirst_0 rfl ?_
  refine c_getn hC X FX4_13 h4 rfl hl dX4_takeFirst_1 ?_
  refine c_astore_nn hx hb hL dX4_takeFirst_4 (Nat.le_of_ble_eq_true rfl) (fun ls hL => ?_)
  refine m_aload_nq (x := none) hx hb hL dX4_takeFirst_5 rfl ?_
  refine lv_ifnonnullN hx hb dX4_takeFirst_6 ?_
  refine lv_null hx hb dX4_takeFirst_9 ?_
  exact c_aretn hC X hr hlk ⟨rfl, rfl, rfl⟩ dX4_takeFirst_10

set_option maxHeartbeats 4000000 in
theorem k_X4_takeFirst_l {G : mG} {l : Launch} {z : Nat} {ρ : Nat → Nat} {μ : mM} {w o : Nat} {n : Int} (h4 : sh μ w = some (.inl 4)) (ho : sh μ o = some (.inl 1)) (hl : mq μ w 0 = some o) (hx6 : mq μ o 6 = none) (hn : mi μ w 2 = iv n) : MZ G l yX4_takeFirst cX4_takeFirst 2 (some (.object "ForwardHeap$HeapObject")) 0 0 z ρ [.ref (ρ w)] μ (cP (some (.ref (ρ o))) (setI (setQ (setQ (setQ μ w 0 none) w 1 none) o 6 none) w 2 (iv (n - 1))) z) := by
  refine MZ.of (by decide) (by simp [Value.category]) (Nat.le_of_ble_eq_true rfl) (Nat.le_of_ble_eq_true rfl) ?_
  intro p e s m args below meth c ls H locs hC hx hb hr hlk X hL
  have nwo : w ≠ o := fun e => by rw [e, ho] at h4; cases h4
  refine m_aload_n hx hb hL dX4_takeFirst_0 rfl ?_
  refine m_getr (b := o) hC X FX4_13 h4 rfl hl dX4_takeFirst_1 ?_
  refine c_astore_nr hx hb hL dX4_takeFirst_4 (Nat.le_of_ble_eq_true rfl) (fun ls hL => ?_)
  refine m_aload_n hx hb hL dX4_takeFirst_5 rfl ?_
  refine lv_ifnonnull (tgt := 11) hx hb dX4_takeFirst_6 (by decide) ?_
  refine m_aload_n hx hb hL dX4_takeFirst_11 rfl ?_
  refine m_aload_n hx hb hL dX4_takeFirst_12 rfl ?_
  refine c_getn hC X FX4_16 ho rfl hx6 dX4_takeFirst_13 ?_
  refine c_putn hC X FwX4_13 h4 rfl (by decide) dX4_takeFirst_16 (fun H locs X => ?_)
  refine m_aload_n hx hb hL dX4_takeFirst_19 rfl ?_
  refine c_getn hC X FX4_13 h4 rfl (by simp [mi_I, mi_Q, mq_I, mq_Q]) dX4_takeFirst_20 ?_
  refine lv_ifnonnullN hx hb dX4_takeFirst_23 ?_
  refine m_aload_n hx hb hL dX4_takeFirst_26 rfl ?_
  refine lv_null hx hb dX4_takeFirst_27 ?_
  refine c_putn hC X FwX4_7 h4 rfl (by decide) dX4_takeFirst_28 (fun H locs X => ?_)
  refine m_aload_n hx hb hL dX4_takeFirst_31 rfl ?_
  refine lv_null hx hb dX4_takeFirst_32 ?_
  refine c_putn hC X FwX4_16 ho rfl (by decide) dX4_takeFirst_33 (fun H locs X => ?_)
  refine m_aload_n hx hb hL dX4_takeFirst_36 rfl ?_
  refine lv_dup hx hb dX4_takeFirst_37 rfl ?_
  refine c_geti (x := n) hC X FX4_21 h4 rfl (by rw [mi_Q, mi_Q, mi_Q]; exact hn) dX4_takeFirst_38 ?_
  refine lv_iconst (v := iv 1) hx hb dX4_takeFirst_41 rfl ?_
  refine m_isub hx hb dX4_takeFirst_42 ?_
  refine c_puti (x := (n - 1)) hC X FwX4_21 h4 rfl dX4_takeFirst_43 (fun H locs X => ?_)
  refine m_aload_n hx hb hL dX4_takeFirst_46 rfl ?_
  exact c_aretr hC X hr hlk ⟨rfl, rfl, rfl⟩ dX4_takeFirst_47

set_option maxHeartbeats 4000000 in
theorem k_X4_takeFirst_m {G : mG} {l : Launch} {z : Nat} {ρ : Nat → Nat} {μ : mM} {w o q : Nat} {n : Int} (h4 : sh μ w = some (.inl 4)) (ho : sh μ o = some (.inl 1)) (hq : sh μ q = some (.inl 1)) (hl : mq μ w 0 = some o) (hx6 : mq μ o 6 = some q) (hn : mi μ w 2 = iv n) : MZ G l yX4_takeFirst cX4_takeFirst 2 (some (.object "ForwardHeap$HeapObject")) 0 0 z ρ [.ref (ρ w)] μ (cP (some (.ref (ρ o))) (setI (setQ (setQ μ w 0 (some q)) o 6 none) w 2 (iv (n - 1))) z) := by
  refine MZ.of (by decide) (by simp [Value.category]) (Nat.le_of_ble_eq_true rfl) (Nat.le_of_ble_eq_true rfl) ?_
  intro p e s m args below meth c ls H locs hC hx hb hr hlk X hL
  have nwo : w ≠ o := fun e => by rw [e, ho] at h4; cases h4
  refine m_aload_n hx hb hL dX4_takeFirst_0 rfl ?_
  refine m_getr (b := o) hC X FX4_13 h4 rfl hl dX4_takeFirst_1 ?_
  refine c_astore_nr hx hb hL dX4_takeFirst_4 (Nat.le_of_ble_eq_true rfl) (fun ls hL => ?_)
  refine m_aload_n hx hb hL dX4_takeFirst_5 rfl ?_
  refine lv_ifnonnull (tgt := 11) hx hb dX4_takeFirst_6 (by decide) ?_
  refine m_aload_n hx hb hL dX4_takeFirst_11 rfl ?_
  refine m_aload_n hx hb hL dX4_takeFirst_12 rfl ?_
  refine m_getr (b := q) hC X FX4_16 ho rfl hx6 dX4_takeFirst_13 ?_
  refine c_putr (b := q) hC X FwX4_13 h4 rfl (by decide) hq rfl dX4_takeFirst_16 (fun H locs X => ?_)
  refine m_aload_n hx hb hL dX4_takeFirst_19 rfl ?_
  refine m_getr (b := q) hC X FX4_13 h4 rfl (by simp [mi_I, mi_Q, mq_I, mq_Q]) dX4_takeFirst_20 ?_
  refine lv_ifnonnull (tgt := 31) hx hb dX4_takeFirst_23 (by decide) ?_
  refine m_aload_n hx hb hL dX4_takeFirst_31 rfl ?_
  refine lv_null hx hb dX4_takeFirst_32 ?_
  refine c_putn hC X FwX4_16 ho rfl (by decide) dX4_takeFirst_33 (fun H locs X => ?_)
  refine m_aload_n hx hb hL dX4_takeFirst_36 rfl ?_
  refine lv_dup hx hb dX4_takeFirst_37 rfl ?_
  refine c_geti (x := n) hC X FX4_21 h4 rfl (by rw [mi_Q, mi_Q]; exact hn) dX4_takeFirst_38 ?_
  refine lv_iconst (v := iv 1) hx hb dX4_takeFirst_41 rfl ?_
  refine m_isub hx hb dX4_takeFirst_42 ?_
  refine c_puti (x := (n - 1)) hC X FwX4_21 h4 rfl dX4_takeFirst_43 (fun H locs X => ?_)
  refine m_aload_n hx hb hL dX4_takeFirst_46 rfl ?_
  exact c_aretr hC X hr hlk ⟨rfl, rfl, rfl⟩ dX4_takeFirst_47

set_option maxHeartbeats 4000000 in
theorem k_X0_welcome {G : mG} {l : Launch} {z : Nat} {ρ : Nat → Nat} {μ : mM} {a o : Nat} {ph cy : Int} (h0 : sh μ a = some (.inl 0)) (ho : sh μ o = some (.inl 1)) (hp : mi μ a 3 = iv ph) (hcy : mi μ a 4 = iv cy) (hb0 : 0 ≤ ph ∧ ph ≤ 3) : MZ G l yX0_welcome cX0_welcome 2 none 0 0 z ρ [.ref (ρ a), .ref (ρ o)] μ (cP none (if ph = 0 then μ else setI μ o 4 (iv cy)) z) := by
  refine MZ.of (by decide) (by simp [Value.category]) (Nat.le_of_ble_eq_true rfl) (Nat.le_of_ble_eq_true rfl) ?_
  intro p e s m args below meth c ls H locs hC hx hb hr hlk X hL
  refine m_aload_n hx hb hL dX0_welcome_0 rfl ?_
  refine c_geti (x := ph) hC X FX0_31 h0 rfl hp dX0_welcome_1 ?_
  refine m_if_eq (tgt := 15) hx hb dX0_welcome_4 (by decide) (by omega) (fun c4 => ?_) (fun c4 => ?_)
  · exact m_vret hC X hr hlk ⟨rfl, by rw [if_pos c4], rfl⟩ dX0_welcome_15
  · refine m_aload_n hx hb hL dX0_welcome_7 rfl ?_
    refine m_aload_n hx hb hL dX0_welcome_8 rfl ?_
    refine c_geti (x := cy) hC X FX0_34 h0 rfl hcy dX0_welcome_9 ?_
    refine c_puti (x := cy) hC X FwX0_61 ho rfl dX0_welcome_12 (fun H locs X => ?_)
    exact m_vret hC X hr hlk ⟨rfl, by rw [if_neg c4], rfl⟩ dX0_welcome_15

set_option maxHeartbeats 4000000 in
theorem k_X0_mayMove {G : mG} {l : Launch} {z : Nat} {ρ : Nat → Nat} {μ : mM} {a o r : Nat} {kd fl cy : Int} (h0 : sh μ a = some (.inl 0)) (ho : sh μ o = some (.inl 1)) (h3 : sh μ r = some (.inl 3)) (hr2 : mq μ o 2 = some r) (hk : mi μ r 2 = iv kd) (hfl : mi μ o 5 = iv fl) (hcy : mi μ a 4 = iv cy) (b1 : 0 ≤ kd ∧ kd ≤ 4) (b2 : -1 ≤ fl ∧ fl ≤ 2000) (b3 : 0 ≤ cy ∧ cy ≤ 2000) : MZ G l yX0_mayMove cX0_mayMove 2 (some .boolean) 0 0 z ρ [.ref (ρ a), .ref (ρ o)] μ (cP (some (.int (iv (bZ (kd = 4 ∧ fl ≠ cy))))) μ z) := by
  refine MZ.of (by decide) (by simp [Value.category]) (Nat.le_of_ble_eq_true rfl) (Nat.le_of_ble_eq_true rfl) ?_
  intro p e s m args below meth c ls H locs hC hx hb hr hlk X hL
  refine m_aload_n hx hb hL dX0_mayMove_0 rfl ?_
  refine m_getr (b := r) hC X FX0_112 ho rfl hr2 dX0_mayMove_1 ?_
  refine c_geti (x := kd) hC X FX0_90 h3 rfl hk dX0_mayMove_4 ?_
  refine lv_iconst (v := iv 4) hx hb dX0_mayMove_7 rfl ?_
  refine m_icmp_ne (tgt := 26) hx hb dX0_mayMove_8 (by decide) (by omega) (by omega) (fun c8 => ?_) (fun c8 => ?_)
  · refine lv_iconst (v := iv 0) hx hb dX0_mayMove_26 rfl ?_
    exact m_zret hC X hr hlk (by decide) ⟨by first | rw [bZ_t (by omega)] | rw [bZ_f (by omega)], rfl, rfl⟩ dX0_mayMove_27
  · refine m_aload_n hx hb hL dX0_mayMove_11 rfl ?_
    refine c_geti (x := fl) hC X FX0_116 ho rfl hfl dX0_mayMove_12 ?_
    refine m_aload_n hx hb hL dX0_mayMove_15 rfl ?_
    refine c_geti (x := cy) hC X FX0_34 h0 rfl hcy dX0_mayMove_16 ?_
    refine m_icmp_eq (tgt := 26) hx hb dX0_mayMove_19 (by decide) (by omega) (by omega) (fun c19 => ?_) (fun c19 => ?_)
    · refine lv_iconst (v := iv 0) hx hb dX0_mayMove_26 rfl ?_
      exact m_zret hC X hr hlk (by decide) ⟨by first | rw [bZ_t (by omega)] | rw [bZ_f (by omega)], rfl, rfl⟩ dX0_mayMove_27
    · refine lv_iconst (v := iv 1) hx hb dX0_mayMove_22 rfl ?_
      refine lv_goto (tgt := 27) hx hb dX0_mayMove_23 (by decide) ?_
      exact m_zret hC X hr hlk (by decide) ⟨by first | rw [bZ_t (by omega)] | rw [bZ_f (by omega)], rfl, rfl⟩ dX0_mayMove_27

set_option maxHeartbeats 4000000 in
theorem k_X5_tagOf_n {G : mG} {l : Launch} {z : Nat} {ρ : Nat → Nat} {μ : mM} : MZ G l yX5_tagOf cX5_tagOf 1 (some .int) 0 0 z ρ [.null] μ (cP (some (.int (iv 0))) μ z) := by
  refine MZ.of (by decide) (by simp [Value.category]) (Nat.le_of_ble_eq_true rfl) (Nat.le_of_ble_eq_true rfl) ?_
  intro p e s m args below meth c ls H locs hC hx hb hr hlk X hL
  refine m_aload_nq (x := none) hx hb hL dX5_tagOf_0 rfl ?_
  refine lv_ifnonnullN hx hb dX5_tagOf_1 ?_
  refine lv_iconst (v := iv 0) hx hb dX5_tagOf_4 rfl ?_
  refine lv_goto (tgt := 12) hx hb dX5_tagOf_5 (by decide) ?_
  exact m_iret hC X hr hlk ⟨rfl, rfl, rfl⟩ dX5_tagOf_12

set_option maxHeartbeats 4000000 in
theorem k_X5_tagOf_s {G : mG} {l : Launch} {z : Nat} {ρ : Nat → Nat} {μ : mM} {o : Nat} {t : Int} (ho : sh μ o = some (.inl 1)) (ht : mi μ o 0 = iv t) : MZ G l yX5_tagOf cX5_tagOf 1 (some .int) 0 0 z ρ [.ref (ρ o)] μ (cP (some (.int (iv t))) μ z) := by
  refine MZ.of (by decide) (by simp [Value.category]) (Nat.le_of_ble_eq_true rfl) (Nat.le_of_ble_eq_true rfl) ?_
  intro p e s m args below meth c ls H locs hC hx hb hr hlk X hL
  refine m_aload_n hx hb hL dX5_tagOf_0 rfl ?_
  refine lv_ifnonnull (tgt := 8) hx hb dX5_tagOf_1 (by decide) ?_
  refine m_aload_n hx hb hL dX5_tagOf_8 rfl ?_
  refine c_geti (x := t) hC X FX5_87 ho rfl ht dX5_tagOf_9 ?_
  exact m_iret hC X hr hlk ⟨rfl, rfl, rfl⟩ dX5_tagOf_12

set_option maxHeartbeats 4000000 in
theorem k_X5_placeOf_n {G : mG} {l : Launch} {z : Nat} {ρ : Nat → Nat} {μ : mM} : MZ G l yX5_placeOf cX5_placeOf 1 (some .int) 0 0 z ρ [.null] μ (cP (some (.int (iv (-1)))) μ z) := by
  refine MZ.of (by decide) (by simp [Value.category]) (Nat.le_of_ble_eq_true rfl) (Nat.le_of_ble_eq_true rfl) ?_
  intro p e s m args below meth c ls H locs hC hx hb hr hlk X hL
  refine m_aload_nq (x := none) hx hb hL dX5_placeOf_0 rfl ?_
  refine lv_ifnonnullN hx hb dX5_placeOf_1 ?_
  refine lv_iconst (v := iv (-1)) hx hb dX5_placeOf_4 rfl ?_
  refine lv_goto (tgt := 24) hx hb dX5_placeOf_5 (by decide) ?_
  exact m_iret hC X hr hlk ⟨rfl, rfl, rfl⟩ dX5_placeOf_24

set_option maxHeartbeats 4000000 in
theorem k_X5_placeOf_s {G : mG} {l : Launch} {z : Nat} {ρ : Nat → Nat} {μ : mM} {o r : Nat} {n f : Int} (ho : sh μ o = some (.inl 1)) (h3 : sh μ r = some (.inl 3)) (hr2 : mq μ o 2 = some r) (hn : mi μ r 0 = iv n) (hfo : mi μ o 3 = iv f) : MZ G l yX5_placeOf cX5_placeOf 1 (some .int) 0 0 z ρ [.ref (ρ o)] μ (cP (some (.int (iv (128 * n + f)))) μ z) := by
  refine MZ.of (by decide) (by simp [Value.category]) (Nat.le_of_ble_eq_true rfl) (Nat.le_of_ble_eq_true rfl) ?_
  intro p e s m args below meth c ls H locs hC hx hb hr hlk X hL
  refine m_aload_n hx hb hL dX5_placeOf_0 rfl ?_
  refine lv_ifnonnull (tgt := 8) hx hb dX5_placeOf_1 (by decide) ?_
  refine lv_sipush (v := iv 128) hx hb dX5_placeOf_8 (by decide +kernel) ?_
  refine m_aload_n hx hb hL dX5_placeOf_11 rfl ?_
  refine m_getr (b := r) hC X FX5_161 ho rfl hr2 dX5_placeOf_12 ?_
  refine c_geti (x := n) hC X FX5_165 h3 rfl hn dX5_placeOf_15 ?_
  refine m_imul hx hb dX5_placeOf_18 ?_
  refine m_aload_n hx hb hL dX5_placeOf_19 rfl ?_
  refine c_geti (x := f) hC X FX5_168 ho rfl hfo dX5_placeOf_20 ?_
  refine m_iadd hx hb dX5_placeOf_23 ?_
  exact m_iret hC X hr hlk ⟨rfl, rfl, rfl⟩ dX5_placeOf_24

