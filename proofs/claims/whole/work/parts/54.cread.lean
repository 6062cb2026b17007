/-! the class's methods over the class relation (printed by wip/tools/cls2.py) -/
set_option maxHeartbeats 4000000 in
theorem k_X3_seenWords {G : mG} {l : Launch} {z : Nat} {ρ : Nat → Nat} {μ : mM} {A : rS} {P : Nat → Prop} {cy : Int} {r : Nat} (hc : CR A P cy μ) (hV : Vd A) (hS : Sg A) (hPl : Pl A P) (hrn : r < RN A) : MZ G l yX3_seenWords cX3_seenWords 5 (some .int) 1 20 z ρ [.ref (ρ (aRg r)), .int (iv cy)] μ (cP (some (.int (iv (rSeenIn A (r : Int))))) μ z) := by
  refine MZ.of (by decide) (by simp [Value.category]) (Nat.le_of_ble_eq_true rfl) (Nat.le_of_ble_eq_true rfl) ?_
  intro p e s m args below meth c ls H locs hC hx hb hr hlk X hL
  obtain ⟨h1, h2, h3, h4, h5, h6, h7, h8, hcy0, hcy1⟩ := id hc
  obtain ⟨⟨f00, f01, f02⟩, ⟨f10, f11, f12⟩, ⟨f20, f21, f22⟩, ⟨f30, f40, f50⟩, frr, foo⟩ := id h1
  obtain ⟨g1, g3, g4, g5, g6, g7⟩ := id h2
  obtain ⟨r1, r2, r3, r4, r5⟩ := frr r hrn
  obtain ⟨rk, ru, ⟨rq, re, rea, reb⟩, rp, rd, rda, rdb, rdc⟩ := h6 r hrn
  have b4 := hV.1.b4 r
  refine lv_iconst (v := iv 0) hx hb dX3_seenWords_0 rfl ?_
  refine m_istore_n hx hb hL dX3_seenWords_1 (Nat.le_of_ble_eq_true rfl) (fun ls hL => ?_)
  refine lv_iconst (v := iv 0) hx hb dX3_seenWords_2 rfl ?_
  refine m_istore_n hx hb hL dX3_seenWords_3 (Nat.le_of_ble_eq_true rfl) (fun ls hL => ?_)
  have lp : ∀ (f : Nat) (n t : Int) (H : Heap) (locs : List Loc) (ls : Array Slot), 0 ≤ t ∧ t ≤ A 4 r → 0 ≤ n ∧ n ≤ 22 * t → n = sm (wAt A μ r) t.toNat → (f : Int) + t = 200 → mX G ρ (mA ρ μ z) s.heap μ z H locs → lq ls [some (.ref (ρ (aRg r))), some (.int (iv cy)), some (.int (iv n)), some (.int (iv t)), none] → W p l e (rm 1 20 0 0) s m args below meth c H locs 0 0 (wQ G ρ μ z (cP (some (.int (iv (rSeenIn A (r : Int))))) μ z) below args s 0 0) (F0 m 4 ls []) := by
    intro f
    induction f with
    | zero =>
      intro  n t H locs ls h0 hb9 hn hf1 X hL
      omega
    | succ f ih =>
      intro  n t H locs ls h0 hb9 hn hf1 X hL
      refine m_iload_n hx hb hL dX3_seenWords_4 rfl ?_
      refine m_aload_n hx hb hL dX3_seenWords_5 rfl ?_
      refine c_geti (x := (A 4 r)) hC X FX3_24 r2 rfl ru dX3_seenWords_6 ?_
      refine m_icmp_ge (tgt := 48) hx hb dX3_seenWords_9 (by decide) (by omega) (by omega) (fun c9 => ?_) (fun c9 => ?_)
      · refine m_iload_n hx hb hL dX3_seenWords_48 rfl ?_
        exact m_iret hC X hr hlk ⟨by rw [← seenWords_sm (cy := cy) hV hS hPl h7 hrn, hn, show (A 4 r).toNat = t.toNat by omega], rfl, rfl⟩ dX3_seenWords_49
      · refine m_aload_n hx hb hL dX3_seenWords_12 rfl ?_
        refine m_getr (b := aSt r) hC X FX3_17 r2 rfl r3 dX3_seenWords_13 ?_
        refine m_iload_n hx hb hL dX3_seenWords_16 rfl ?_
        rcases hq : mq μ (aSt r) (t : Int).toNat with _ | b
        · refine c_aaldn (x := t) hC X r4 (Or.inl rfl) (by omega) (by omega) (by omega) hq dX3_seenWords_17 ?_
          refine c_astoren hx hb hL dX3_seenWords_18 (Nat.le_of_ble_eq_true rfl) (fun ls hL => ?_)
          refine m_aloadq (x := none) hx hb hL dX3_seenWords_20 rfl ?_
          refine lv_ifnullN (tgt := 42) hx hb dX3_seenWords_22 (by decide) ?_
          refine m_iincv hx hb hL dX3_seenWords_42 rfl (fun ls hL => ?_)
          refine lv_goto (tgt := 4) hx hb dX3_seenWords_45 (by decide) ?_
          exact ih n (t + 1) _ _ ls ⟨by omega, by omega⟩ ⟨by omega, by omega⟩ (by rw [show (t + 1).toNat = t.toNat + 1 by omega, sm, ← hn]; unfold wAt; rw [hq]; show n = n + 0; omega) (by omega) X (lq_none 4 hL)
        · obtain ⟨o, rfl, hPo, o7, o8⟩ := h7.1 r _ _ hrn (by omega) hq
          have ho := (hPl.1 o hPo).1
          have ho9 := (hV.2.1 o ho).1
          have hb9 := hV.1.b9 o
          obtain ⟨o1, o2, o3, o4⟩ := foo o ho
          obtain ⟨oh, oo, ⟨ov, os, osa, osb, osc⟩, ⟨ow, of, ofa, ofb, ofc⟩, oz⟩ := h8 o ho
          refine c_aaldr (x := t) hC X r4 (Or.inl rfl) (by omega) (by omega) (by omega) hq dX3_seenWords_17 ?_
          refine c_astorer hx hb hL dX3_seenWords_18 (Nat.le_of_ble_eq_true rfl) (fun ls hL => ?_)
          refine m_aload hx hb hL dX3_seenWords_20 rfl ?_
          refine lv_ifnull hx hb dX3_seenWords_22 ?_
          refine m_aload hx hb hL dX3_seenWords_25 rfl ?_
          refine c_geti (x := ov) hC X FX3_38 o1 rfl os dX3_seenWords_27 ?_
          refine m_iload_n hx hb hL dX3_seenWords_30 rfl ?_
          refine m_icmp_ne (tgt := 42) hx hb dX3_seenWords_31 (by decide) (by omega) (by omega) (fun c31 => ?_) (fun c31 => ?_)
          · refine m_iincv hx hb hL dX3_seenWords_42 rfl (fun ls hL => ?_)
            refine lv_goto (tgt := 4) hx hb dX3_seenWords_45 (by decide) ?_
            exact ih n (t + 1) _ _ ls ⟨by omega, by omega⟩ ⟨by omega, by omega⟩ (by rw [show (t + 1).toNat = t.toNat + 1 by omega, sm, ← hn]; unfold wAt; rw [hq]; show n = n + (if A 12 ((aOb o - 10) / 16) = 1 then A 9 ((aOb o - 10) / 16) else 0); rw [ob_idx, if_neg (fun q => c31 (osc.mpr q))]; omega) (by omega) X (lq_none 4 hL)
          · refine m_iload_n hx hb hL dX3_seenWords_34 rfl ?_
            refine m_aload hx hb hL dX3_seenWords_35 rfl ?_
            refine c_callV hC X (k_X1_words (f := aFd o) (n := (A 9 o - 2).toNat) o1 o2 o3) VX3_34 o1 rfl ⟨by decide, by decide⟩ ⟨by decide, by decide⟩ hL.1 rfl (Nat.le_of_ble_eq_true rfl) dX3_seenWords_37 (fun v37 μ37 z37 H locs hp X => ?_)
            obtain ⟨rfl, rfl, rfl⟩ := hp
            refine m_iadd hx hb dX3_seenWords_40 ?_
            refine m_istore_n hx hb hL dX3_seenWords_41 (Nat.le_of_ble_eq_true rfl) (fun ls hL => ?_)
            refine m_iincv hx hb hL dX3_seenWords_42 rfl (fun ls hL => ?_)
            refine lv_goto (tgt := 4) hx hb dX3_seenWords_45 (by decide) ?_
            exact ih (n + (((A 9 o - 2).toNat : Int) + 2)) (t + 1) _ _ ls ⟨by omega, by omega⟩ ⟨by omega, by omega⟩ (by rw [show (t + 1).toNat = t.toNat + 1 by omega, sm, ← hn]; unfold wAt; rw [hq]; show _ = n + (if A 12 ((aOb o - 10) / 16) = 1 then A 9 ((aOb o - 10) / 16) else 0); rw [ob_idx, if_pos (osc.mp c31)]; omega) (by omega) X (lq_none 4 hL)
  exact lp 200 0 0 _ _ ls ⟨by omega, by omega⟩ ⟨by omega, by omega⟩ rfl (by omega) X hL

set_option maxHeartbeats 4000000 in
theorem k_X3_nextToMove {G : mG} {l : Launch} {z : Nat} {ρ : Nat → Nat} {μ : mM} {A : rS} {P Gs : Nat → Prop} {cy : Int} {r : Nat} (hc : CR A P cy μ) (hK : KK A P Gs) (hrn : r < RN A) (hk4 : A 3 r = 4) : MZ G l yX3_nextToMove cX3_nextToMove 3 (some (.object "ForwardHeap$HeapObject")) 0 0 z ρ [.ref (ρ (aRg r)), .int (iv cy)] μ (nextP A ρ μ r z) := by
  refine MZ.of (by decide) (by simp [Value.category]) (Nat.le_of_ble_eq_true rfl) (Nat.le_of_ble_eq_true rfl) ?_
  intro p e s m args below meth c ls H locs hC hx hb hr hlk X hL
  obtain ⟨h1, h2, h3, h4, h5, h6, h7, h8, hcy0, hcy1⟩ := id hc
  obtain ⟨⟨f00, f01, f02⟩, ⟨f10, f11, f12⟩, ⟨f20, f21, f22⟩, ⟨f30, f40, f50⟩, frr, foo⟩ := id h1
  obtain ⟨g1, g3, g4, g5, g6, g7⟩ := id h2
  obtain ⟨r1, r2, r3, r4, r5⟩ := frr r hrn
  obtain ⟨rk, ru, ⟨rq, re, rea, reb⟩, rp, rd, rda, rdb, rdc⟩ := h6 r hrn
  have b4 := hK.1.1.b4 r
  have lp : ∀ (f : Nat) (p1 : Int) (H : Heap) (locs : List Loc) (ls : Array Slot), 0 ≤ p1 ∧ p1 ≤ 128 → (∀ o, o < nn A → rToMove A (o : Int) = 1 → A 7 o = r → p1 ≤ A 8 o) → (f : Int) + p1 = 200 → mX G ρ (mA ρ μ z) s.heap (setI μ (aRg r) 4 (iv p1)) z H locs → lq ls [some (.ref (ρ (aRg r))), some (.int (iv cy)), none] → W p l e (rm 0 0 0 0) s m args below meth c H locs 0 0 (wQ G ρ μ z (nextP A ρ μ r z) below args s 0 0) (F0 m 0 ls []) := by
    intro f
    induction f with
    | zero =>
      intro p1 H locs ls h0 hm hf1 X hL
      omega
    | succ f ih =>
      intro p1 H locs ls h0 hm hf1 X hL
      refine m_aload_n hx hb hL dX3_nextToMove_0 rfl ?_
      refine c_geti (x := p1) hC X FX3_41 r2 rfl (by simp [mi_I, mi_Q, mq_I, mq_Q]) dX3_nextToMove_1 ?_
      refine m_aload_n hx hb hL dX3_nextToMove_4 rfl ?_
      refine c_geti (x := (A 4 r)) hC X FX3_24 r2 rfl (by rw [mi_I, if_neg (fun q => absurd q.2 (by decide))]; exact ru) dX3_nextToMove_5 ?_
      refine m_icmp_ge (tgt := 56) hx hb dX3_nextToMove_8 (by decide) (by omega) (by omega) (fun c8 => ?_) (fun c8 => ?_)
      · refine lv_null hx hb dX3_nextToMove_56 ?_
        exact c_aretn hC X hr hlk ⟨rfl, p1, h0.1, h0.2, rfl, hm, Or.inl ⟨rfl, fun q hq1 hq2 hq3 => by have w1 := hm q hq1 hq2 hq3; obtain ⟨-, -, w2, -⟩ := mov_at hK h7 hq1 hq2 hq3; have := (hK.1.2.1 q hq1).1; omega⟩⟩ dX3_nextToMove_57
      · refine m_aload_n hx hb hL dX3_nextToMove_11 rfl ?_
        refine m_getr (b := aSt r) hC X FX3_17 r2 rfl (by rw [mq_I]; exact r3) dX3_nextToMove_12 ?_
        refine m_aload_n hx hb hL dX3_nextToMove_15 rfl ?_
        refine c_geti (x := p1) hC X FX3_41 r2 rfl (by simp [mi_I, mi_Q, mq_I, mq_Q]) dX3_nextToMove_16 ?_
        have b4 := hK.1.1.b4 r
        rcases hq : mq μ (aSt r) (p1 : Int).toNat with _ | b
        · refine c_aaldn (x := p1) hC X r4 (Or.inl rfl) (by omega) (by omega) (by omega) (by rw [mq_I]; exact hq) dX3_nextToMove_19 ?_
          refine c_astore_nn hx hb hL dX3_nextToMove_20 (Nat.le_of_ble_eq_true rfl) (fun ls hL => ?_)
          refine m_aload_nq (x := none) hx hb hL dX3_nextToMove_21 rfl ?_
          refine lv_ifnullN (tgt := 43) hx hb dX3_nextToMove_22 (by decide) ?_
          refine m_aload_n hx hb hL dX3_nextToMove_43 rfl ?_
          refine lv_dup hx hb dX3_nextToMove_44 rfl ?_
          refine c_geti (x := p1) hC X FX3_41 r2 rfl (by simp [mi_I, mi_Q, mq_I, mq_Q]) dX3_nextToMove_45 ?_
          refine lv_iconst (v := iv 1) hx hb dX3_nextToMove_48 rfl ?_
          refine m_iadd hx hb dX3_nextToMove_49 ?_
          refine c_puti (x := (p1 + 1)) hC X FwX3_41 r2 rfl dX3_nextToMove_50 (fun H locs X => ?_)
          refine lv_goto (tgt := 0) hx hb dX3_nextToMove_53 (by decide) ?_
          rw [setI_setI] at X
          refine ih (p1 + 1) _ _ ls ⟨by omega, by omega⟩ (fun q hq1 hq2 hq3 => ?_) (by omega) X (lq_none 2 hL)
          have w1 := hm q hq1 hq2 hq3
          obtain ⟨-, w2, -, w3⟩ := mov_at hK h7 hq1 hq2 hq3
          have w4 := toMoveN.mp hq2
          by_cases e1 : A 8 q = p1
          · rw [e1, hq] at w2
            cases w2
          · omega
        · obtain ⟨o, rfl, hPo, o7, o8⟩ := h7.1 r _ _ hrn (by omega) hq
          have ho := (hK.2.2.2.2.1.1 o hPo).1
          obtain ⟨o1, o2, o3, o4⟩ := foo o ho
          obtain ⟨oh, oo, ⟨ov, os, osa, osb, osc⟩, ⟨ow, of, ofa, ofb, ofc⟩, oz⟩ := h8 o ho
          refine c_aaldr (x := p1) hC X r4 (Or.inl rfl) (by omega) (by omega) (by omega) (by rw [mq_I]; exact hq) dX3_nextToMove_19 ?_
          refine c_astore_nr hx hb hL dX3_nextToMove_20 (Nat.le_of_ble_eq_true rfl) (fun ls hL => ?_)
          refine m_aload_n hx hb hL dX3_nextToMove_21 rfl ?_
          refine lv_ifnull hx hb dX3_nextToMove_22 ?_
          refine m_aload_n hx hb hL dX3_nextToMove_25 rfl ?_
          refine c_geti (x := ov) hC X FX3_38 o1 rfl (by rw [mi_I, if_neg (fun q => (aRg_ne_aOb r o).symm q.1)]; exact os) dX3_nextToMove_26 ?_
          refine m_iload_n hx hb hL dX3_nextToMove_29 rfl ?_
          refine m_icmp_ne (tgt := 43) hx hb dX3_nextToMove_30 (by decide) (by omega) (by omega) (fun c30 => ?_) (fun c30 => ?_)
          · refine m_aload_n hx hb hL dX3_nextToMove_43 rfl ?_
            refine lv_dup hx hb dX3_nextToMove_44 rfl ?_
            refine c_geti (x := p1) hC X FX3_41 r2 rfl (by simp [mi_I, mi_Q, mq_I, mq_Q]) dX3_nextToMove_45 ?_
            refine lv_iconst (v := iv 1) hx hb dX3_nextToMove_48 rfl ?_
            refine m_iadd hx hb dX3_nextToMove_49 ?_
            refine c_puti (x := (p1 + 1)) hC X FwX3_41 r2 rfl dX3_nextToMove_50 (fun H locs X => ?_)
            refine lv_goto (tgt := 0) hx hb dX3_nextToMove_53 (by decide) ?_
            rw [setI_setI] at X
            refine ih (p1 + 1) _ _ ls ⟨by omega, by omega⟩ (fun q hq1 hq2 hq3 => ?_) (by omega) X (lq_none 2 hL)
            have w1 := hm q hq1 hq2 hq3
            obtain ⟨-, w2, -, w3⟩ := mov_at hK h7 hq1 hq2 hq3
            have w4 := toMoveN.mp hq2
            by_cases e1 : A 8 q = p1
            · rw [e1, hq] at w2
              have e2 := aOb_inj (Option.some.inj w2)
              subst e2
              exfalso
              exact c30 (osc.mpr (by have := hK.1.1.b12 o; omega))
            · omega
          · refine m_aload_n hx hb hL dX3_nextToMove_33 rfl ?_
            refine c_geti (x := ow) hC X FX3_48 o1 rfl (by rw [mi_I, if_neg (fun q => absurd q.2 (by decide))]; exact of) dX3_nextToMove_34 ?_
            refine m_iload_n hx hb hL dX3_nextToMove_37 rfl ?_
            refine m_icmp_eq (tgt := 43) hx hb dX3_nextToMove_38 (by decide) (by omega) (by omega) (fun c38 => ?_) (fun c38 => ?_)
            · refine m_aload_n hx hb hL dX3_nextToMove_43 rfl ?_
              refine lv_dup hx hb dX3_nextToMove_44 rfl ?_
              refine c_geti (x := p1) hC X FX3_41 r2 rfl (by simp [mi_I, mi_Q, mq_I, mq_Q]) dX3_nextToMove_45 ?_
              refine lv_iconst (v := iv 1) hx hb dX3_nextToMove_48 rfl ?_
              refine m_iadd hx hb dX3_nextToMove_49 ?_
              refine c_puti (x := (p1 + 1)) hC X FwX3_41 r2 rfl dX3_nextToMove_50 (fun H locs X => ?_)
              refine lv_goto (tgt := 0) hx hb dX3_nextToMove_53 (by decide) ?_
              rw [setI_setI] at X
              refine ih (p1 + 1) _ _ ls ⟨by omega, by omega⟩ (fun q hq1 hq2 hq3 => ?_) (by omega) X (lq_none 2 hL)
              have w1 := hm q hq1 hq2 hq3
              obtain ⟨-, w2, -, w3⟩ := mov_at hK h7 hq1 hq2 hq3
              have w4 := toMoveN.mp hq2
              by_cases e1 : A 8 q = p1
              · rw [e1, hq] at w2
                have e2 := aOb_inj (Option.some.inj w2)
                subst e2
                exfalso
                have := ofc.mp c38; omega
              · omega
            · refine m_aload_n hx hb hL dX3_nextToMove_41 rfl ?_
              have hb12 := hK.1.1.b12 o
              have hb13 := hK.1.1.b13 o
              exact c_aretr hC X hr hlk ⟨rfl, p1, h0.1, h0.2, rfl, hm, Or.inr ⟨o, ho, rfl, toMoveN.mpr ⟨by have := osc.mp c30; omega, by have := fun w => c38 (ofc.mpr w); omega, by rw [o7]; simpa using hk4⟩, o7, by omega⟩⟩ dX3_nextToMove_42
  exact lp (200 - rp).toNat rp _ _ ls ⟨rda, rdb⟩ (fun o ho hm h7o => rdc hk4 o ho hm h7o) (by omega) (by rw [setI_self rd]; exact X) hL

set_option maxHeartbeats 4000000 in
theorem k_X2_leastFree {G : mG} {l : Launch} {z : Nat} {ρ : Nat → Nat} {μ : mM} {A : rS} (h1 : C1 A μ) (hk : ∀ r, r < RN A → mi μ (aRg r) 2 = iv (A 3 r)) (hI : RI A) : MZ G l yX2_leastFree cX2_leastFree 5 (some (.object "ForwardHeap$Region")) 0 0 z ρ [.ref (ρ 2)] μ (cP (some (va_rf ((rref (rWith A 0)).map ρ))) μ z) := by
  refine MZ.of (by decide) (by simp [Value.category]) (Nat.le_of_ble_eq_true rfl) (Nat.le_of_ble_eq_true rfl) ?_
  intro p e s m args below meth c ls H locs hC hx hb hr hlk X hL
  obtain ⟨⟨f00, f01, f02⟩, ⟨f10, f11, f12⟩, ⟨f20, f21, f22⟩, ⟨f30, f40, f50⟩, frr, foo⟩ := id h1
  have b1 := hI.b1 0
  have hRN : ((RN A : Nat) : Int) = A 1 0 := by unfold RN; omega
  refine m_aload_n hx hb hL dX2_leastFree_0 rfl ?_
  refine m_getr (b := 5) hC X FX2_19 f20 rfl f22 dX2_leastFree_1 ?_
  refine c_astore_nr hx hb hL dX2_leastFree_4 (Nat.le_of_ble_eq_true rfl) (fun ls hL => ?_)
  refine m_aload_n hx hb hL dX2_leastFree_5 rfl ?_
  refine c_alen hC X f50 (by decide) dX2_leastFree_6 ?_
  refine m_istore_n hx hb hL dX2_leastFree_7 (Nat.le_of_ble_eq_true rfl) (fun ls hL => ?_)
  refine lv_iconst (v := iv 0) hx hb dX2_leastFree_8 rfl ?_
  refine m_istore_n hx hb hL dX2_leastFree_9 (Nat.le_of_ble_eq_true rfl) (fun ls hL => ?_)
  have lp : ∀ (f : Nat) (i : Int) (H : Heap) (locs : List Loc) (ls : Array Slot), 0 ≤ i ∧ i ≤ A 1 0 → (f : Int) + i = 20 → rWith A 0 = rWs A 0 f i → mX G ρ (mA ρ μ z) s.heap μ z H locs → lq ls [some (.ref (ρ 2)), some (.ref (ρ 5)), some (.int (iv ((RN A : Nat) : Int))), some (.int (iv i)), none] → W p l e (rm 0 0 0 0) s m args below meth c H locs 0 0 (wQ G ρ μ z (cP (some (va_rf ((rref (rWith A 0)).map ρ))) μ z) below args s 0 0) (F0 m 10 ls []) := by
    intro f
    induction f with
    | zero =>
      intro  i H locs ls h0 hf1 hv X hL
      omega
    | succ f ih =>
      intro  i H locs ls h0 hf1 hv X hL
      refine m_iload_n hx hb hL dX2_leastFree_10 rfl ?_
      refine m_iload_n hx hb hL dX2_leastFree_11 rfl ?_
      refine m_icmp_ge (tgt := 37) hx hb dX2_leastFree_12 (by decide) (by omega) (by omega) (fun c12 => ?_) (fun c12 => ?_)
      · refine lv_null hx hb dX2_leastFree_37 ?_
        exact c_aretn hC X hr hlk ⟨by rw [hv, rWs, if_pos (by omega)]; rfl, rfl, rfl⟩ dX2_leastFree_38
      · refine m_aload_n hx hb hL dX2_leastFree_15 rfl ?_
        refine m_iload_n hx hb hL dX2_leastFree_16 rfl ?_
        obtain ⟨r1, r2, r3, r4, r5⟩ := frr i.toNat (by omega)
        have rk := hk i.toNat (by omega)
        have rkb := hI.b3 i.toNat
        refine c_aaldr (x := i) hC X f50 (Or.inr rfl) (by omega) (by omega) (by omega) r1 dX2_leastFree_17 ?_
        refine c_astorer hx hb hL dX2_leastFree_18 (Nat.le_of_ble_eq_true rfl) (fun ls hL => ?_)
        refine m_aload hx hb hL dX2_leastFree_20 rfl ?_
        refine c_geti (x := (A 3 i.toNat)) hC X FX2_26 r2 rfl rk dX2_leastFree_22 ?_
        refine m_if_ne (tgt := 31) hx hb dX2_leastFree_25 (by decide) (by omega) (fun c25 => ?_) (fun c25 => ?_)
        · refine m_iincv hx hb hL dX2_leastFree_31 rfl (fun ls hL => ?_)
          refine lv_goto (tgt := 10) hx hb dX2_leastFree_34 (by decide) ?_
          exact ih (i + 1) _ _ ls ⟨by omega, by omega⟩ (by omega) (by rw [hv, rWs, if_neg (by omega), if_neg c25]) X (lq_none 4 hL)
        · refine m_aload hx hb hL dX2_leastFree_28 rfl ?_
          exact c_aretr hC X hr hlk ⟨by rw [hv, rWs, if_neg (by omega), if_pos c25, rref_s (by omega)]; rfl, rfl, rfl⟩ dX2_leastFree_30
  exact lp 20 0 _ _ ls ⟨by omega, by omega⟩ (by omega) rfl X hL

set_option maxHeartbeats 4000000 in
theorem k_X2_countFree {G : mG} {l : Launch} {z : Nat} {ρ : Nat → Nat} {μ : mM} {A : rS} (h1 : C1 A μ) (hk : ∀ r, r < RN A → mi μ (aRg r) 2 = iv (A 3 r)) (hI : RI A) : MZ G l yX2_countFree cX2_countFree 6 (some .int) 0 0 z ρ [.ref (ρ 2)] μ (cP (some (.int (iv (rFree A)))) μ z) := by
  refine MZ.of (by decide) (by simp [Value.category]) (Nat.le_of_ble_eq_true rfl) (Nat.le_of_ble_eq_true rfl) ?_
  intro p e s m args below meth c ls H locs hC hx hb hr hlk X hL
  obtain ⟨⟨f00, f01, f02⟩, ⟨f10, f11, f12⟩, ⟨f20, f21, f22⟩, ⟨f30, f40, f50⟩, frr, foo⟩ := id h1
  have b1 := hI.b1 0
  have hRN : ((RN A : Nat) : Int) = A 1 0 := by unfold RN; omega
  refine lv_iconst (v := iv 0) hx hb dX2_countFree_0 rfl ?_
  refine m_istore_n hx hb hL dX2_countFree_1 (Nat.le_of_ble_eq_true rfl) (fun ls hL => ?_)
  refine m_aload_n hx hb hL dX2_countFree_2 rfl ?_
  refine m_getr (b := 5) hC X FX2_19 f20 rfl f22 dX2_countFree_3 ?_
  refine c_astore_nr hx hb hL dX2_countFree_6 (Nat.le_of_ble_eq_true rfl) (fun ls hL => ?_)
  refine m_aload_n hx hb hL dX2_countFree_7 rfl ?_
  refine c_alen hC X f50 (by decide) dX2_countFree_8 ?_
  refine m_istore_n hx hb hL dX2_countFree_9 (Nat.le_of_ble_eq_true rfl) (fun ls hL => ?_)
  refine lv_iconst (v := iv 0) hx hb dX2_countFree_10 rfl ?_
  refine m_istore hx hb hL dX2_countFree_11 (Nat.le_of_ble_eq_true rfl) (fun ls hL => ?_)
  have lp : ∀ (f : Nat) (n i : Int) (H : Heap) (locs : List Loc) (ls : Array Slot), 0 ≤ i ∧ i ≤ A 1 0 → 0 ≤ n ∧ n ≤ i → (f : Int) + i = 20 → rFree A = rFr A f i n → mX G ρ (mA ρ μ z) s.heap μ z H locs → lq ls [some (.ref (ρ 2)), some (.int (iv n)), some (.ref (ρ 5)), some (.int (iv ((RN A : Nat) : Int))), some (.int (iv i)), none] → W p l e (rm 0 0 0 0) s m args below meth c H locs 0 0 (wQ G ρ μ z (cP (some (.int (iv (rFree A)))) μ z) below args s 0 0) (F0 m 13 ls []) := by
    intro f
    induction f with
    | zero =>
      intro  n i H locs ls h0 hn0 hf1 hv X hL
      omega
    | succ f ih =>
      intro  n i H locs ls h0 hn0 hf1 hv X hL
      refine m_iload hx hb hL dX2_countFree_13 rfl ?_
      refine m_iload_n hx hb hL dX2_countFree_15 rfl ?_
      refine m_icmp_ge (tgt := 42) hx hb dX2_countFree_16 (by decide) (by omega) (by omega) (fun c16 => ?_) (fun c16 => ?_)
      · refine m_iload_n hx hb hL dX2_countFree_42 rfl ?_
        exact m_iret hC X hr hlk ⟨by rw [hv, rFr, if_pos (by omega)], rfl, rfl⟩ dX2_countFree_43
      · refine m_aload_n hx hb hL dX2_countFree_19 rfl ?_
        refine m_iload hx hb hL dX2_countFree_20 rfl ?_
        obtain ⟨r1, r2, r3, r4, r5⟩ := frr i.toNat (by omega)
        have rk := hk i.toNat (by omega)
        have rkb := hI.b3 i.toNat
        refine c_aaldr (x := i) hC X f50 (Or.inr rfl) (by omega) (by omega) (by omega) r1 dX2_countFree_22 ?_
        refine c_astorer hx hb hL dX2_countFree_23 (Nat.le_of_ble_eq_true rfl) (fun ls hL => ?_)
        refine m_aload hx hb hL dX2_countFree_25 rfl ?_
        refine c_geti (x := (A 3 i.toNat)) hC X FX2_26 r2 rfl rk dX2_countFree_27 ?_
        refine m_if_ne (tgt := 36) hx hb dX2_countFree_30 (by decide) (by omega) (fun c30 => ?_) (fun c30 => ?_)
        · refine m_iincv hx hb hL dX2_countFree_36 rfl (fun ls hL => ?_)
          refine lv_goto (tgt := 13) hx hb dX2_countFree_39 (by decide) ?_
          exact ih n (i + 1) _ _ ls ⟨by omega, by omega⟩ ⟨by omega, by omega⟩ (by omega) (by rw [hv, rFr, if_neg (by omega)]; first | rw [if_pos c30] | rw [if_neg c30]) X (lq_none 5 hL)
        · refine m_iincv hx hb hL dX2_countFree_33 rfl (fun ls hL => ?_)
          refine m_iincv hx hb hL dX2_countFree_36 rfl (fun ls hL => ?_)
          refine lv_goto (tgt := 13) hx hb dX2_countFree_39 (by decide) ?_
          exact ih (n + 1) (i + 1) _ _ ls ⟨by omega, by omega⟩ ⟨by omega, by omega⟩ (by omega) (by rw [hv, rFr, if_neg (by omega)]; first | rw [if_pos c30] | rw [if_neg c30]) X (lq_none 5 hL)
  exact lp 20 0 0 _ _ ls ⟨by omega, by omega⟩ ⟨by omega, by omega⟩ (by omega) rfl X hL

