/-! the law's wrappers (printed by wip/tools/cls10.py) -/
def wP (A' : rS) (o : mM → Prop) (cy : Int) (μ : mM) (z : Nat) : Option Value → mM → Nat → Prop := fun v μ' z' => v = some (.int (iv (A' 0 0))) ∧ z ≤ z' ∧ (∃ (P' G' : Nat → Prop) (cy' : Int), KK A' P' G' ∧ CR A' P' cy' μ' ∧ cy' ≤ cy + 1) ∧ wfr μ μ' ∧ NS A' μ' ∧ (A' 0 0 = 0 → o μ')
abbrev oJ (V : Int) : mM → Prop := fun μ' => mj μ' 7 0 = (iv V).toInt64
theorem J_CR {A : rS} {P : Nat → Prop} {cy : Int} {μ : mM} {a k : Nat} {v : Int64} (h : CR A P cy μ) : CR A P cy (setJ μ a k v) := h
theorem w_err {A A' : rS} {P G : Nat → Prop} {cy : Int} {μ : mM} {z z' : Nat} {o : mM → Prop} {k : Int} (hA : A' = up A 0 0 k) (hk : k = 1 ∨ k = 2) (hc : CR A P cy μ) (hK : KK A P G) (hNS : NS A μ) (hz : z ≤ z') : wP A' o cy μ z (some (.int (iv k))) μ z' := by
  subst hA
  have e0 : up A 0 0 k 0 0 = k := up_s _ _ _ _
  refine ⟨by rw [e0], hz, ⟨P, G, cy, KK_0 hK (by omega), (z_CR k).mpr hc, by omega⟩, wfr.rf μ, NS.fr hNS (fun _ => rfl) (up_k _ _ (by decide)), fun q => absurd (e0.symm.trans q) (by omega)⟩
theorem w_okm {A A' : rS} {P' G' : Nat → Prop} {cy cy' : Int} {μ μ1 : mM} {z : Nat} (h0 : A' 0 0 = 0) (h6 : A' 6 0 = A 6 0) (hK : KK A' P' G') (hc : CR A' P' cy' μ1) (hcy : cy' ≤ cy + 1) (hf : cfr μ μ1) (hNS : NS A μ) : wP A' (fun _ => True) cy μ z (some (.int (iv 0))) μ1 z :=
  ⟨by rw [h0], Nat.le_refl _, ⟨P', G', cy', hK, hc, hcy⟩, hf.w, NS.fr hNS hf.1 h6, fun _ => trivial⟩
theorem w_ok {A A' : rS} {P' G' : Nat → Prop} {cy cy' V : Int} {μ μ1 : mM} {z : Nat} (h0 : A' 0 0 = 0) (h6 : A' 6 0 = A 6 0) (hK : KK A' P' G') (hc : CR A' P' cy' μ1) (hcy : cy' ≤ cy + 1) (hf : cfr μ μ1) (hNS : NS A μ) : wP A' (oJ V) cy μ z (some (.int (iv 0))) (setJ μ1 7 0 (iv V).toInt64) z :=
  ⟨by rw [h0], Nat.le_refl _, ⟨P', G', cy', hK, J_CR hc, hcy⟩, hf.w.J 0 _, NS.fr hNS hf.1 h6, fun _ => by show mj (setJ μ1 7 0 _) 7 0 = _; rw [mj_J, if_pos ⟨rfl, rfl⟩]⟩
theorem w_okA {A' : rS} {cy V : Int} {μ μ1 : mM} {z z' : Nat} (h0 : A' 0 0 = 0) (hz : z ≤ z') (h : ∃ (P' G' : Nat → Prop) (cy' : Int), KK A' P' G' ∧ CR A' P' cy' μ1 ∧ cy' ≤ cy + 1) (hf : wfr μ μ1) (hNS : NS A' μ1) : wP A' (oJ V) cy μ z (some (.int (iv 0))) (setJ μ1 7 0 (iv V).toInt64) z' :=
  ⟨by rw [h0], hz, h, hf.J 0 _, hNS, fun _ => by show mj (setJ μ1 7 0 _) 7 0 = _; rw [mj_J, if_pos ⟨rfl, rfl⟩]⟩
theorem mv_06 {A : rS} {a b : Int} (h : rReg a ∧ rReg b) : rMove A a b 0 0 = 0 ∧ rMove A a b 6 0 = A 6 0 := by
  unfold rMove
  rw [if_pos h]
  exact ⟨by rw [up_k _ _ (by decide), up_s], by rw [up_k _ _ (by decide), up_k _ _ (by decide)]⟩
theorem dr_06 {A : rS} {a : Int} (h : rReg a) : rDrop A a 0 0 = 0 ∧ rDrop A a 6 0 = A 6 0 := by
  unfold rDrop
  rw [if_pos h]
  exact ⟨by rw [up_k _ _ (by decide), up_s], by rw [up_k _ _ (by decide), up_k _ _ (by decide)]⟩
theorem rd_06 {A : rS} {t f i : Int} (h : rHF A t f f i = 0) : rRead A t f i 0 0 = 0 ∧ rRead A t f i 6 0 = A 6 0 := by
  unfold rRead
  rw [if_pos h]
  exact ⟨by rw [up_k _ _ (by decide), up_s], by rw [up_k _ _ (by decide), up_k _ _ (by decide)]⟩
theorem prep_6 {A : rS} {o b : Int} : rPrep A o b 6 0 = A 6 0 := by
  unfold rPrep
  split
  · unfold rSee
    split
    · rfl
    · split
      · rw [up_k _ _ (by decide), up_k _ _ (by decide), up_k _ _ (by decide)]
      · rfl
  · split
    · exact rCarry_k (by decide) (by decide) (by decide) (by decide) (by decide) (by decide) (by decide) (by decide)
    · rfl
theorem wr_06 {A : rS} {r i f : Int} (h : rHF A r f r i = 0) : rWrite A r i f 0 0 = 0 ∧ rWrite A r i f 6 0 = A 6 0 := by
  unfold rWrite
  rw [if_pos h, prep_0]
  exact ⟨by rw [up_k _ _ (by decide), up_s], by rw [up_k _ _ (by decide), up_k _ _ (by decide), prep_6]⟩
theorem wk_06 {A : rS} {n : Int} (h : 0 ≤ n ∧ n ≤ 10000) : rWork A n 0 0 = 0 ∧ rWork A n 6 0 = A 6 0 := by
  unfold rWork
  rw [if_pos h]
  exact ⟨by rw [run_fix 0 (by decide), up_s], by rw [run_fix 0 (by decide), up_k _ _ (by decide)]⟩
theorem wk_KK {A : rS} {P G : Nat → Prop} {n : Int} (hK : KK A P G) (h : 0 ≤ n ∧ n ≤ 10000) : KK (rWork A n) (pRun n.toNat (up A 0 0 0) P) G := by
  unfold rWork
  rw [if_pos h]
  exact run_KK _ (KK_0 hK (by omega))
theorem al1_0 {A : rS} {c : Int} : rAl1 A c 0 0 = 0 := by
  unfold rAl1
  split
  · rw [has_k _ _ (by decide), up_s]
  · rw [has_k _ _ (by decide), whole_fix 0 (by decide), has_k _ _ (by decide), up_s]
theorem al_0 {A : rS} {r c t : Int} (hI : RI (rAl1 A c)) (h : rAllocOk r c) : rAlloc A r c t 0 0 = 0 := by
  unfold rAlloc
  rw [if_pos h]
  split
  · obtain ⟨e, -⟩ := put_e (r := r) (c := c) (t := t) hI h.2
    rw [e 0 0 (by decide) (by decide) (by decide) (by decide) (by decide) (by decide) (by decide) (by decide) (by decide) (by decide)]
    exact al1_0
  · exact al1_0
theorem w_13 : Cond.classLink RL 13 XI ∈ AW := by decide +kernel
theorem w_15 : Cond.classLink RL 15 XA ∈ AW := by decide +kernel
theorem w_28 : Cond.classLink RL 28 XT ∈ AW := by decide +kernel

theorem al1_RI {A : rS} {P G : Nat → Prop} {c : Int} (hK : KK A P G) (hc : 0 ≤ c ∧ c ≤ 20) : RI (rAl1 A c) := by
  have hK0 := KK_0 (v := 0) hK (by omega)
  unfold rAl1
  split
  · exact (has_KK (n := c + 2) hK0).1.1
  · exact (has_KK (n := c + 2) (whole_KK (has_KK (n := c + 2) hK0)).1).1.1
theorem h6_0 {A : rS} {r c t : Int} (hI : RI (rAl1 A c)) : rAlloc A r c t 6 0 = A 6 0 ∨ rAlloc A r c t 6 0 = A 6 0 + 1 := by
  have e6 : rAl1 A c 6 0 = A 6 0 := by
    unfold rAl1
    split
    · rw [has_k _ _ (by decide), up_k _ _ (by decide)]
    · rw [has_k _ _ (by decide), whole_fix 0 (by decide), has_k _ _ (by decide), up_k _ _ (by decide)]
  unfold rAlloc
  split
  · rename_i h
    split
    · obtain ⟨-, -, -, h6, -⟩ := put_e (r := r) (c := c) (t := t) hI h.2
      exact Or.inr (by rw [h6, e6])
    · exact Or.inl e6
  · exact Or.inl (up_k _ _ (by decide))
set_option maxHeartbeats 4000000 in
theorem k_L_alloc {G : mG} {l : Launch} {z : Nat} {ρ : Nat → Nat} {μ : mM} {A : rS} {P Gs : Nat → Prop} {cy : Int} {r fc t : Int} (hl : l.stackTraces = false) (hc : CR A P cy μ) (hK : KK A P Gs) (hNS : NS A μ) (h7 : sh μ 7 = some (.inr (2, 1))) (hcy : cy < 2000) (h512 : A 6 0 < 512) (hz1 : ρ (aOb (nn A)) = z) (hz2 : ρ (aFd (nn A)) = z + 1) (hr0 : -2147483648 ≤ r ∧ r ≤ 2147483647) (hfc0 : -2147483648 ≤ fc ∧ fc ≤ 2147483647) (ht0 : -2147483648 ≤ t ∧ t ≤ 2147483647) : MX (Cond.codeWith yL_alloc cL_alloc 6 (some .int) [(0, 12, 15, 13), (0, 12, 19, 15)]) G l yL_alloc 8 162 3 33 z ρ [.ref (ρ 0), .int (iv r), .int (iv fc), .int (iv t), .ref (ρ 7)] μ (wP (rAlloc A r fc t) (oJ (rAllocV A r fc t)) cy μ z) (fun _ _ _ => False) := by
  refine MX.ofH (by decide) (by simp [Value.category]) (Nat.le_of_ble_eq_true rfl) (Nat.le_of_ble_eq_true rfl) ?_
  intro p e s m args below meth c ls H locs hC hx hb hr hlk hxt hxW hxZ X hL
  have f00 := hc.1.1.1
  refine m_aload hx hb hL dL_alloc_0 rfl ?_
  refine lv_iconst (v := iv 0) hx hb dL_alloc_2 rfl ?_
  refine m_aload_n hx hb hL dL_alloc_3 rfl ?_
  refine m_iload_n hx hb hL dL_alloc_4 rfl ?_
  refine m_iload_n hx hb hL dL_alloc_5 rfl ?_
  refine m_iload_n hx hb hL dL_alloc_6 rfl ?_
  refine x_callV hC hxW hxZ X (k_X5_alloc hl hc hK hcy h512 hNS hz1 hz2 hr0 hfc0 ht0) VL_7 f00 rfl ⟨by decide, by decide⟩ ⟨by decide, by decide⟩ hL.1 rfl (Nat.le_of_ble_eq_true rfl) dL_alloc_7 (fun E ce q μx zx H locs hpx X hce hcv hcl => ?_) (fun v μ1 z1 H locs hp X => ?_)
  · obtain ⟨h9, rfl, hzx⟩ := hpx
    rcases h9 with ⟨rfl, h9⟩ | ⟨rfl, h9⟩
    · refine vx_catch (own := RL) (name := XI) hC.2.2.2.1 [] ⟨0, 12, 15, 13⟩ [⟨0, 12, 19, 15⟩] (by rw [hxt]; rfl) (fun _ h => absurd h List.not_mem_nil) (by decide) (by decide) (hC.2.2.2.2.1 _ w_13) (hxW.1.2.1.use rfl) hce hcv hcl ?_
      refine m_astore (x := some q) hx hb hL dL_alloc_15 (Nat.le_of_ble_eq_true rfl) (fun ls hL => ?_)
      refine lv_iconst (v := iv 1) hx hb dL_alloc_17 rfl ?_
      exact x_ret (Nat.le_of_ble_eq_true rfl) (Nat.le_of_ble_eq_true rfl) (m_iret hC X hr hlk (w_err (k := 1) (by unfold rAlloc; rw [if_neg (fun q => h9 q.1), if_neg h9]) (Or.inl rfl) hc hK hNS hzx) dL_alloc_18)
    · refine vx_catch (own := RL) (name := XA) hC.2.2.2.1 [⟨0, 12, 15, 13⟩] ⟨0, 12, 19, 15⟩ [] (by rw [hxt]; rfl) (fun y hy => by rcases List.mem_singleton.mp hy with rfl; exact Or.inr ⟨by decide, XI, hC.2.2.2.2.1 _ w_13, hxW.2.1.1⟩) (by decide) (by decide) (hC.2.2.2.2.1 _ w_15) (hxW.1.2.2.1.use rfl) hce hcv hcl ?_
      refine m_astore (x := some q) hx hb hL dL_alloc_19 (Nat.le_of_ble_eq_true rfl) (fun ls hL => ?_)
      refine lv_iconst (v := iv 2) hx hb dL_alloc_21 rfl ?_
      exact x_ret (Nat.le_of_ble_eq_true rfl) (Nat.le_of_ble_eq_true rfl) (m_iret hC X hr hlk (w_err (k := 2) (by unfold rAlloc; rw [if_neg (fun q => h9.2 q.2), if_pos h9.1]) (Or.inr rfl) hc hK hNS hzx) dL_alloc_22)
  · obtain ⟨hok, rfl, hz_, hc2, hf2, hn2⟩ := hp
    have s7 : sh μ1 7 = some (.inr (2, 1)) := by rw [hf2.1 7 n7]; exact h7
    have hIa : RI (rAl1 A fc) := al1_RI hK hok.2
    refine lv_i2l (v := (iv (rAllocV A r fc t)).toInt64) hx hb dL_alloc_10 rfl ?_
    refine m_last (n := 1) (i := 0) hC X s7 (by decide +kernel) (by decide) (by decide) dL_alloc_11 (fun H locs X => ?_)
    refine lv_goto (tgt := 23) hx hb dL_alloc_12 (by decide) ?_
    refine lv_iconst (v := iv 0) hx hb dL_alloc_23 rfl ?_
    exact x_ret (Nat.le_of_ble_eq_true rfl) (Nat.le_of_ble_eq_true rfl) (m_iret hC X hr hlk (w_okA (al_0 hIa hok) hz_ hc2 hf2 hn2) dL_alloc_24)
theorem HL_62 : mVh RL 62 yL_alloc cL_alloc 6 (some .int) [(0, 12, 15, 13), (0, 12, 19, 15)] 5 := ⟨by decide +kernel, by decide +kernel, by decide +kernel, by decide +kernel, by decide +kernel⟩
set_option maxHeartbeats 4000000 in
theorem k_L_move {G : mG} {l : Launch} {z : Nat} {ρ : Nat → Nat} {μ : mM} {A : rS} {P Gs : Nat → Prop} {cy : Int} {a b : Int} (hl : l.stackTraces = false) (hc : CR A P cy μ) (hK : KK A P Gs) (hNS : NS A μ) (ha0 : -2147483648 ≤ a ∧ a ≤ 2147483647) (hb0 : -2147483648 ≤ b ∧ b ≤ 2147483647) : MX (Cond.codeWith yL_move cL_move 4 (some .int) [(0, 6, 9, 13)]) G l yL_move 8 132 2 12 z ρ [.ref (ρ 0), .int (iv a), .int (iv b)] μ (wP (rMove A a b) (fun _ => True) cy μ z) (fun _ _ _ => False) := by
  refine MX.ofH (by decide) (by simp [Value.category]) (Nat.le_of_ble_eq_true rfl) (Nat.le_of_ble_eq_true rfl) ?_
  intro p e s m args below meth c ls H locs hC hx hb hr hlk hxt hxW hxZ X hL
  have f00 := hc.1.1.1
  refine m_aload_n hx hb hL dL_move_0 rfl ?_
  refine m_iload_n hx hb hL dL_move_1 rfl ?_
  refine m_iload_n hx hb hL dL_move_2 rfl ?_
  refine x_callV hC hxW hxZ X (k_X5_move hl hc hK ha0 hb0) VL_17 f00 rfl ⟨by decide, by decide⟩ ⟨by decide, by decide⟩ hL.1 rfl (Nat.le_of_ble_eq_true rfl) dL_move_3 (fun E ce q μx zx H locs hpx X hce hcv hcl => ?_) (fun v μ1 z1 H locs hp X => ?_)
  · obtain ⟨h9, rfl, hzx⟩ := hpx
    rcases h9 with ⟨rfl, h9⟩ | ⟨rfl, h9⟩
    · refine vx_catch (own := RL) (name := XI) hC.2.2.2.1 [] ⟨0, 6, 9, 13⟩ [] (by rw [hxt]; rfl) (fun _ h => absurd h List.not_mem_nil) (by decide) (by decide) (hC.2.2.2.2.1 _ w_13) (hxW.1.2.1.use rfl) hce hcv hcl ?_
      refine m_astore_n (x := some q) hx hb hL dL_move_9 (Nat.le_of_ble_eq_true rfl) (fun ls hL => ?_)
      refine lv_iconst (v := iv 1) hx hb dL_move_10 rfl ?_
      exact x_ret (Nat.le_of_ble_eq_true rfl) (Nat.le_of_ble_eq_true rfl) (m_iret hC X hr hlk (w_err (k := 1) (by unfold rMove; rw [if_neg h9]) (Or.inl rfl) hc hK hNS hzx) dL_move_11)
    · exact h9.elim
  · obtain ⟨hok, rfl, hz_, hc2, hf2⟩ := hp
    have hz_ := hz_.symm
    subst hz_
    refine lv_goto (tgt := 12) hx hb dL_move_6 (by decide) ?_
    refine lv_iconst (v := iv 0) hx hb dL_move_12 rfl ?_
    exact x_ret (Nat.le_of_ble_eq_true rfl) (Nat.le_of_ble_eq_true rfl) (m_iret hC X hr hlk (w_okm (mv_06 hok).1 (mv_06 hok).2 (move_KK hK) hc2 (by omega) hf2 hNS) dL_move_13)
theorem HL_70 : mVh RL 70 yL_move cL_move 4 (some .int) [(0, 6, 9, 13)] 3 := ⟨by decide +kernel, by decide +kernel, by decide +kernel, by decide +kernel, by decide +kernel⟩
set_option maxHeartbeats 4000000 in
theorem k_L_drop {G : mG} {l : Launch} {z : Nat} {ρ : Nat → Nat} {μ : mM} {A : rS} {P Gs : Nat → Prop} {cy : Int} {a : Int} (hl : l.stackTraces = false) (hc : CR A P cy μ) (hK : KK A P Gs) (hNS : NS A μ) (h7 : sh μ 7 = some (.inr (2, 1))) (ha0 : -2147483648 ≤ a ∧ a ≤ 2147483647) : MX (Cond.codeWith yL_drop cL_drop 4 (some .int) [(0, 16, 19, 13)]) G l yL_drop 8 132 1 6 z ρ [.ref (ρ 0), .int (iv a), .ref (ρ 7)] μ (wP (rDrop A a) (oJ (rDropV A a)) cy μ z) (fun _ _ _ => False) := by
  refine MX.ofH (by decide) (by simp [Value.category]) (Nat.le_of_ble_eq_true rfl) (Nat.le_of_ble_eq_true rfl) ?_
  intro p e s m args below meth c ls H locs hC hx hb hr hlk hxt hxW hxZ X hL
  have f00 := hc.1.1.1
  refine m_aload_n hx hb hL dL_drop_0 rfl ?_
  refine lv_iconst (v := iv 0) hx hb dL_drop_1 rfl ?_
  refine m_aload_n hx hb hL dL_drop_2 rfl ?_
  refine m_iload_n hx hb hL dL_drop_3 rfl ?_
  refine x_callV hC hxW hxZ X (k_X5_drop hl hc hK ha0) VL_21 f00 rfl ⟨by decide, by decide⟩ ⟨by decide, by decide⟩ hL.1 rfl (Nat.le_of_ble_eq_true rfl) dL_drop_4 (fun E ce q μx zx H locs hpx X hce hcv hcl => ?_) (fun v μ1 z1 H locs hp X => ?_)
  · obtain ⟨h9, rfl, hzx⟩ := hpx
    rcases h9 with ⟨rfl, h9⟩ | ⟨rfl, h9⟩
    · refine vx_catch (own := RL) (name := XI) hC.2.2.2.1 [] ⟨0, 16, 19, 13⟩ [] (by rw [hxt]; rfl) (fun _ h => absurd h List.not_mem_nil) (by decide) (by decide) (hC.2.2.2.2.1 _ w_13) (hxW.1.2.1.use rfl) hce hcv hcl ?_
      refine m_astore_n (x := some q) hx hb hL dL_drop_19 (Nat.le_of_ble_eq_true rfl) (fun ls hL => ?_)
      refine lv_iconst (v := iv 1) hx hb dL_drop_20 rfl ?_
      exact x_ret (Nat.le_of_ble_eq_true rfl) (Nat.le_of_ble_eq_true rfl) (m_iret hC X hr hlk (w_err (k := 1) (by unfold rDrop; rw [if_neg h9]) (Or.inl rfl) hc hK hNS hzx) dL_drop_21)
    · exact h9.elim
  · obtain ⟨hok, rfl, hz_, hc2, hf2⟩ := hp
    have hz_ := hz_.symm
    subst hz_
    have s7 : sh μ1 7 = some (.inr (2, 1)) := by rw [hf2.1 7]; exact h7
    have hv01 : rDropV A a = 0 ∨ rDropV A a = 1 := by unfold rDropV; rw [if_pos hok]; exact bZ_or _
    refine m_if_eq (x := rDropV A a) (tgt := 14) hx hb dL_drop_7 (by decide) (by omega) (fun cv => ?_) (fun cv => ?_)
    · refine lv_lconst (v := (iv (rDropV A a)).toInt64) hx hb dL_drop_14 (by rw [cv]; decide +kernel) ?_
      refine m_last (n := 1) (i := 0) hC X s7 (by decide +kernel) (by decide) (by decide) dL_drop_15 (fun H locs X => ?_)
      refine lv_goto (tgt := 22) hx hb dL_drop_16 (by decide) ?_
      refine lv_iconst (v := iv 0) hx hb dL_drop_22 rfl ?_
      exact x_ret (Nat.le_of_ble_eq_true rfl) (Nat.le_of_ble_eq_true rfl) (m_iret hC X hr hlk (w_ok (dr_06 hok).1 (dr_06 hok).2 (drop_KK hK) hc2 (by omega) hf2 hNS) dL_drop_23)
    · have cv : rDropV A a = 1 := by omega
      refine lv_lconst (v := (iv (rDropV A a)).toInt64) hx hb dL_drop_10 (by rw [cv]; decide +kernel) ?_
      refine lv_goto (tgt := 15) hx hb dL_drop_11 (by decide) ?_
      refine m_last (n := 1) (i := 0) hC X s7 (by decide +kernel) (by decide) (by decide) dL_drop_15 (fun H locs X => ?_)
      refine lv_goto (tgt := 22) hx hb dL_drop_16 (by decide) ?_
      refine lv_iconst (v := iv 0) hx hb dL_drop_22 rfl ?_
      exact x_ret (Nat.le_of_ble_eq_true rfl) (Nat.le_of_ble_eq_true rfl) (m_iret hC X hr hlk (w_ok (dr_06 hok).1 (dr_06 hok).2 (drop_KK hK) hc2 (by omega) hf2 hNS) dL_drop_23)
theorem HL_74 : mVh RL 74 yL_drop cL_drop 4 (some .int) [(0, 16, 19, 13)] 3 := ⟨by decide +kernel, by decide +kernel, by decide +kernel, by decide +kernel, by decide +kernel⟩
set_option maxHeartbeats 4000000 in
theorem k_L_read {G : mG} {l : Launch} {z : Nat} {ρ : Nat → Nat} {μ : mM} {A : rS} {P Gs : Nat → Prop} {cy : Int} {t f i : Int} (hl : l.stackTraces = false) (hc : CR A P cy μ) (hK : KK A P Gs) (hNS : NS A μ) (h7 : sh μ 7 = some (.inr (2, 1))) (ht0 : -2147483648 ≤ t ∧ t ≤ 2147483647) (hf0 : -2147483648 ≤ f ∧ f ≤ 2147483647) (hi0 : -2147483648 ≤ i ∧ i ≤ 2147483647) : MX (Cond.codeWith yL_read cL_read 6 (some .int) [(0, 12, 15, 13), (0, 12, 19, 28)]) G l yL_read 9 157 4 24 z ρ [.ref (ρ 0), .int (iv t), .int (iv f), .int (iv i), .ref (ρ 7)] μ (wP (rRead A t f i) (oJ (rReadV A t f i)) cy μ z) (fun _ _ _ => False) := by
  refine MX.ofH (by decide) (by simp [Value.category]) (Nat.le_of_ble_eq_true rfl) (Nat.le_of_ble_eq_true rfl) ?_
  intro p e s m args below meth c ls H locs hC hx hb hr hlk hxt hxW hxZ X hL
  have f00 := hc.1.1.1
  refine m_aload hx hb hL dL_read_0 rfl ?_
  refine lv_iconst (v := iv 0) hx hb dL_read_2 rfl ?_
  refine m_aload_n hx hb hL dL_read_3 rfl ?_
  refine m_iload_n hx hb hL dL_read_4 rfl ?_
  refine m_iload_n hx hb hL dL_read_5 rfl ?_
  refine m_iload_n hx hb hL dL_read_6 rfl ?_
  refine x_callV hC hxW hxZ X (k_X5_read hl hc hK ht0 hf0 hi0) VL_25 f00 rfl ⟨by decide, by decide⟩ ⟨by decide, by decide⟩ hL.1 rfl (Nat.le_of_ble_eq_true rfl) dL_read_7 (fun E ce q μx zx H locs hpx X hce hcv hcl => ?_) (fun v μ1 z1 H locs hp X => ?_)
  · obtain ⟨h9, rfl, hzx⟩ := hpx
    rcases h9 with ⟨rfl, h9⟩ | ⟨rfl, h9⟩
    · refine vx_catch (own := RL) (name := XI) hC.2.2.2.1 [] ⟨0, 12, 15, 13⟩ [⟨0, 12, 19, 28⟩] (by rw [hxt]; rfl) (fun _ h => absurd h List.not_mem_nil) (by decide) (by decide) (hC.2.2.2.2.1 _ w_13) (hxW.1.2.1.use rfl) hce hcv hcl ?_
      refine m_astore (x := some q) hx hb hL dL_read_15 (Nat.le_of_ble_eq_true rfl) (fun ls hL => ?_)
      refine lv_iconst (v := iv 1) hx hb dL_read_17 rfl ?_
      exact x_ret (Nat.le_of_ble_eq_true rfl) (Nat.le_of_ble_eq_true rfl) (m_iret hC X hr hlk (w_err (k := 1) (by unfold rRead; rw [if_neg (by omega), h9]) (Or.inl rfl) hc hK hNS hzx) dL_read_18)
    · refine vx_catch (own := RL) (name := XT) hC.2.2.2.1 [⟨0, 12, 15, 13⟩] ⟨0, 12, 19, 28⟩ [] (by rw [hxt]; rfl) (fun y hy => by rcases List.mem_singleton.mp hy with rfl; exact Or.inr ⟨by decide, XI, hC.2.2.2.2.1 _ w_13, hxW.2.1.2⟩) (by decide) (by decide) (hC.2.2.2.2.1 _ w_28) (hxW.1.2.2.2.use rfl) hce hcv hcl ?_
      refine m_astore (x := some q) hx hb hL dL_read_19 (Nat.le_of_ble_eq_true rfl) (fun ls hL => ?_)
      refine lv_iconst (v := iv 2) hx hb dL_read_21 rfl ?_
      exact x_ret (Nat.le_of_ble_eq_true rfl) (Nat.le_of_ble_eq_true rfl) (m_iret hC X hr hlk (w_err (k := 2) (by unfold rRead; rw [if_neg (by omega), h9]) (Or.inr rfl) hc hK hNS hzx) dL_read_22)
  · obtain ⟨hok, rfl, hz_, hc2, hf2⟩ := hp
    have hz_ := hz_.symm
    subst hz_
    have s7 : sh μ1 7 = some (.inr (2, 1)) := by rw [hf2.1 7]; exact h7
    refine lv_i2l (v := (iv (rReadV A t f i)).toInt64) hx hb dL_read_10 rfl ?_
    refine m_last (n := 1) (i := 0) hC X s7 (by decide +kernel) (by decide) (by decide) dL_read_11 (fun H locs X => ?_)
    refine lv_goto (tgt := 23) hx hb dL_read_12 (by decide) ?_
    refine lv_iconst (v := iv 0) hx hb dL_read_23 rfl ?_
    exact x_ret (Nat.le_of_ble_eq_true rfl) (Nat.le_of_ble_eq_true rfl) (m_iret hC X hr hlk (w_ok (rd_06 hok).1 (rd_06 hok).2 (read_KK hK) hc2 (by omega) hf2 hNS) dL_read_24)
theorem HL_78 : mVh RL 78 yL_read cL_read 6 (some .int) [(0, 12, 15, 13), (0, 12, 19, 28)] 5 := ⟨by decide +kernel, by decide +kernel, by decide +kernel, by decide +kernel, by decide +kernel⟩
set_option maxHeartbeats 4000000 in
theorem k_L_write {G : mG} {l : Launch} {z : Nat} {ρ : Nat → Nat} {μ : mM} {A : rS} {P Gs : Nat → Prop} {cy : Int} {r i f : Int} (hl : l.stackTraces = false) (hc : CR A P cy μ) (hK : KK A P Gs) (hNS : NS A μ) (h7 : sh μ 7 = some (.inr (2, 1))) (hr0 : -2147483648 ≤ r ∧ r ≤ 2147483647) (hi0 : -2147483648 ≤ i ∧ i ≤ 2147483647) (hf0 : -2147483648 ≤ f ∧ f ≤ 2147483647) : MX (Cond.codeWith yL_write cL_write 6 (some .int) [(0, 12, 15, 13), (0, 12, 19, 28)]) G l yL_write 9 157 4 24 z ρ [.ref (ρ 0), .int (iv r), .int (iv i), .int (iv f), .ref (ρ 7)] μ (wP (rWrite A r i f) (oJ (rWriteV A r i f)) cy μ z) (fun _ _ _ => False) := by
  refine MX.ofH (by decide) (by simp [Value.category]) (Nat.le_of_ble_eq_true rfl) (Nat.le_of_ble_eq_true rfl) ?_
  intro p e s m args below meth c ls H locs hC hx hb hr hlk hxt hxW hxZ X hL
  have f00 := hc.1.1.1
  refine m_aload hx hb hL dL_write_0 rfl ?_
  refine lv_iconst (v := iv 0) hx hb dL_write_2 rfl ?_
  refine m_aload_n hx hb hL dL_write_3 rfl ?_
  refine m_iload_n hx hb hL dL_write_4 rfl ?_
  refine m_iload_n hx hb hL dL_write_5 rfl ?_
  refine m_iload_n hx hb hL dL_write_6 rfl ?_
  refine x_callV hC hxW hxZ X (k_X5_write hl hc hK hr0 hi0 hf0) VL_30 f00 rfl ⟨by decide, by decide⟩ ⟨by decide, by decide⟩ hL.1 rfl (Nat.le_of_ble_eq_true rfl) dL_write_7 (fun E ce q μx zx H locs hpx X hce hcv hcl => ?_) (fun v μ1 z1 H locs hp X => ?_)
  · obtain ⟨h9, rfl, hzx⟩ := hpx
    rcases h9 with ⟨rfl, h9⟩ | ⟨rfl, h9⟩
    · refine vx_catch (own := RL) (name := XI) hC.2.2.2.1 [] ⟨0, 12, 15, 13⟩ [⟨0, 12, 19, 28⟩] (by rw [hxt]; rfl) (fun _ h => absurd h List.not_mem_nil) (by decide) (by decide) (hC.2.2.2.2.1 _ w_13) (hxW.1.2.1.use rfl) hce hcv hcl ?_
      refine m_astore (x := some q) hx hb hL dL_write_15 (Nat.le_of_ble_eq_true rfl) (fun ls hL => ?_)
      refine lv_iconst (v := iv 1) hx hb dL_write_17 rfl ?_
      exact x_ret (Nat.le_of_ble_eq_true rfl) (Nat.le_of_ble_eq_true rfl) (m_iret hC X hr hlk (w_err (k := 1) (by unfold rWrite; rw [if_neg (by omega), h9]) (Or.inl rfl) hc hK hNS hzx) dL_write_18)
    · refine vx_catch (own := RL) (name := XT) hC.2.2.2.1 [⟨0, 12, 15, 13⟩] ⟨0, 12, 19, 28⟩ [] (by rw [hxt]; rfl) (fun y hy => by rcases List.mem_singleton.mp hy with rfl; exact Or.inr ⟨by decide, XI, hC.2.2.2.2.1 _ w_13, hxW.2.1.2⟩) (by decide) (by decide) (hC.2.2.2.2.1 _ w_28) (hxW.1.2.2.2.use rfl) hce hcv hcl ?_
      refine m_astore (x := some q) hx hb hL dL_write_19 (Nat.le_of_ble_eq_true rfl) (fun ls hL => ?_)
      refine lv_iconst (v := iv 2) hx hb dL_write_21 rfl ?_
      exact x_ret (Nat.le_of_ble_eq_true rfl) (Nat.le_of_ble_eq_true rfl) (m_iret hC X hr hlk (w_err (k := 2) (by unfold rWrite; rw [if_neg (by omega), h9]) (Or.inr rfl) hc hK hNS hzx) dL_write_22)
  · obtain ⟨hok, rfl, hz_, hc2, hf2⟩ := hp
    have hz_ := hz_.symm
    subst hz_
    have s7 : sh μ1 7 = some (.inr (2, 1)) := by rw [hf2.1 7]; exact h7
    refine lv_i2l (v := (iv (rWriteV A r i f)).toInt64) hx hb dL_write_10 rfl ?_
    refine m_last (n := 1) (i := 0) hC X s7 (by decide +kernel) (by decide) (by decide) dL_write_11 (fun H locs X => ?_)
    refine lv_goto (tgt := 23) hx hb dL_write_12 (by decide) ?_
    refine lv_iconst (v := iv 0) hx hb dL_write_23 rfl ?_
    exact x_ret (Nat.le_of_ble_eq_true rfl) (Nat.le_of_ble_eq_true rfl) (m_iret hC X hr hlk (w_ok (wr_06 hok).1 (wr_06 hok).2 (write_KK hK) hc2 (by omega) hf2 hNS) dL_write_24)
theorem HL_81 : mVh RL 81 yL_write cL_write 6 (some .int) [(0, 12, 15, 13), (0, 12, 19, 28)] 5 := ⟨by decide +kernel, by decide +kernel, by decide +kernel, by decide +kernel, by decide +kernel⟩
set_option maxHeartbeats 4000000 in
theorem k_L_tag {G : mG} {l : Launch} {z : Nat} {ρ : Nat → Nat} {μ : mM} {A : rS} {P Gs : Nat → Prop} {cy : Int} {k : Int} (hl : l.stackTraces = false) (hc : CR A P cy μ) (hK : KK A P Gs) (hNS : NS A μ) (h7 : sh μ 7 = some (.inr (2, 1))) (hk0 : -2147483648 ≤ k ∧ k ≤ 2147483647) : MX (Cond.codeWith yL_tag cL_tag 4 (some .int) [(0, 9, 12, 13), (0, 9, 15, 28)]) G l yL_tag 9 153 2 12 z ρ [.ref (ρ 0), .int (iv k), .ref (ρ 7)] μ (wP (up A 0 0 (rTagT A k)) (oJ (rTagV A k)) cy μ z) (fun _ _ _ => False) := by
  refine MX.ofH (by decide) (by simp [Value.category]) (Nat.le_of_ble_eq_true rfl) (Nat.le_of_ble_eq_true rfl) ?_
  intro p e s m args below meth c ls H locs hC hx hb hr hlk hxt hxW hxZ X hL
  have f00 := hc.1.1.1
  refine m_aload_n hx hb hL dL_tag_0 rfl ?_
  refine lv_iconst (v := iv 0) hx hb dL_tag_1 rfl ?_
  refine m_aload_n hx hb hL dL_tag_2 rfl ?_
  refine m_iload_n hx hb hL dL_tag_3 rfl ?_
  refine x_callV hC hxW hxZ X (k_X5_tag hl hc hK hk0) VL_33 f00 rfl ⟨by decide, by decide⟩ ⟨by decide, by decide⟩ hL.1 rfl (Nat.le_of_ble_eq_true rfl) dL_tag_4 (fun E ce q μx zx H locs hpx X hce hcv hcl => ?_) (fun v μ1 z1 H locs hp X => ?_)
  · obtain ⟨h9, rfl, hzx⟩ := hpx
    rcases h9 with ⟨rfl, h9⟩ | ⟨rfl, h9⟩
    · refine vx_catch (own := RL) (name := XI) hC.2.2.2.1 [] ⟨0, 9, 12, 13⟩ [⟨0, 9, 15, 28⟩] (by rw [hxt]; rfl) (fun _ h => absurd h List.not_mem_nil) (by decide) (by decide) (hC.2.2.2.2.1 _ w_13) (hxW.1.2.1.use rfl) hce hcv hcl ?_
      refine m_astore_n (x := some q) hx hb hL dL_tag_12 (Nat.le_of_ble_eq_true rfl) (fun ls hL => ?_)
      refine lv_iconst (v := iv 1) hx hb dL_tag_13 rfl ?_
      exact x_ret (Nat.le_of_ble_eq_true rfl) (Nat.le_of_ble_eq_true rfl) (m_iret hC X hr hlk (w_err (k := 1) (by rw [h9]) (Or.inl rfl) hc hK hNS hzx) dL_tag_14)
    · refine vx_catch (own := RL) (name := XT) hC.2.2.2.1 [⟨0, 9, 12, 13⟩] ⟨0, 9, 15, 28⟩ [] (by rw [hxt]; rfl) (fun y hy => by rcases List.mem_singleton.mp hy with rfl; exact Or.inr ⟨by decide, XI, hC.2.2.2.2.1 _ w_13, hxW.2.1.2⟩) (by decide) (by decide) (hC.2.2.2.2.1 _ w_28) (hxW.1.2.2.2.use rfl) hce hcv hcl ?_
      refine m_astore_n (x := some q) hx hb hL dL_tag_15 (Nat.le_of_ble_eq_true rfl) (fun ls hL => ?_)
      refine lv_iconst (v := iv 2) hx hb dL_tag_16 rfl ?_
      exact x_ret (Nat.le_of_ble_eq_true rfl) (Nat.le_of_ble_eq_true rfl) (m_iret hC X hr hlk (w_err (k := 2) (by rw [h9]) (Or.inr rfl) hc hK hNS hzx) dL_tag_17)
  · obtain ⟨hok, rfl, hm_, hz_⟩ := hp
    have hm_ := hm_.symm
    have hz_ := hz_.symm
    subst hm_
    subst hz_
    have s7 := h7
    refine lv_i2l (v := (iv (rTagV A k)).toInt64) hx hb dL_tag_7 rfl ?_
    refine m_last (n := 1) (i := 0) hC X s7 (by decide +kernel) (by decide) (by decide) dL_tag_8 (fun H locs X => ?_)
    refine lv_goto (tgt := 18) hx hb dL_tag_9 (by decide) ?_
    refine lv_iconst (v := iv 0) hx hb dL_tag_18 rfl ?_
    exact x_ret (Nat.le_of_ble_eq_true rfl) (Nat.le_of_ble_eq_true rfl) (m_iret hC X hr hlk (w_ok (by rw [up_s]; exact hok) (up_k _ _ (by decide)) (KK_0 hK (by rw [hok]; omega)) ((z_CR _).mpr hc) (by omega) (cfr.rf μ) hNS) dL_tag_19)
theorem HL_84 : mVh RL 84 yL_tag cL_tag 4 (some .int) [(0, 9, 12, 13), (0, 9, 15, 28)] 3 := ⟨by decide +kernel, by decide +kernel, by decide +kernel, by decide +kernel, by decide +kernel⟩
set_option maxHeartbeats 4000000 in
theorem k_L_same {G : mG} {l : Launch} {z : Nat} {ρ : Nat → Nat} {μ : mM} {A : rS} {P Gs : Nat → Prop} {cy : Int} {a b : Int} (hl : l.stackTraces = false) (hc : CR A P cy μ) (hK : KK A P Gs) (hNS : NS A μ) (h7 : sh μ 7 = some (.inr (2, 1))) (ha0 : -2147483648 ≤ a ∧ a ≤ 2147483647) (hb0 : -2147483648 ≤ b ∧ b ≤ 2147483647) : MX (Cond.codeWith yL_same cL_same 5 (some .int) [(0, 17, 20, 13)]) G l yL_same 8 132 2 12 z ρ [.ref (ρ 0), .int (iv a), .int (iv b), .ref (ρ 7)] μ (wP (up A 0 0 (if rReg a ∧ rReg b then 0 else 1)) (oJ (rSameV A a b)) cy μ z) (fun _ _ _ => False) := by
  refine MX.ofH (by decide) (by simp [Value.category]) (Nat.le_of_ble_eq_true rfl) (Nat.le_of_ble_eq_true rfl) ?_
  intro p e s m args below meth c ls H locs hC hx hb hr hlk hxt hxW hxZ X hL
  have f00 := hc.1.1.1
  refine m_aload_n hx hb hL dL_same_0 rfl ?_
  refine lv_iconst (v := iv 0) hx hb dL_same_1 rfl ?_
  refine m_aload_n hx hb hL dL_same_2 rfl ?_
  refine m_iload_n hx hb hL dL_same_3 rfl ?_
  refine m_iload_n hx hb hL dL_same_4 rfl ?_
  refine x_callV hC hxW hxZ X (k_X5_same hl hc hK ha0 hb0) VL_37 f00 rfl ⟨by decide, by decide⟩ ⟨by decide, by decide⟩ hL.1 rfl (Nat.le_of_ble_eq_true rfl) dL_same_5 (fun E ce q μx zx H locs hpx X hce hcv hcl => ?_) (fun v μ1 z1 H locs hp X => ?_)
  · obtain ⟨h9, rfl, hzx⟩ := hpx
    rcases h9 with ⟨rfl, h9⟩ | ⟨rfl, h9⟩
    · refine vx_catch (own := RL) (name := XI) hC.2.2.2.1 [] ⟨0, 17, 20, 13⟩ [] (by rw [hxt]; rfl) (fun _ h => absurd h List.not_mem_nil) (by decide) (by decide) (hC.2.2.2.2.1 _ w_13) (hxW.1.2.1.use rfl) hce hcv hcl ?_
      refine m_astore (x := some q) hx hb hL dL_same_20 (Nat.le_of_ble_eq_true rfl) (fun ls hL => ?_)
      refine lv_iconst (v := iv 1) hx hb dL_same_22 rfl ?_
      exact x_ret (Nat.le_of_ble_eq_true rfl) (Nat.le_of_ble_eq_true rfl) (m_iret hC X hr hlk (w_err (k := 1) (by rw [if_neg h9]) (Or.inl rfl) hc hK hNS hzx) dL_same_23)
    · exact h9.elim
  · obtain ⟨hok, rfl, hm_, hz_⟩ := hp
    have hm_ := hm_.symm
    have hz_ := hz_.symm
    subst hm_
    subst hz_
    have s7 := h7
    have hv01 : rSameV A a b = 0 ∨ rSameV A a b = 1 := by unfold rSameV; rw [if_pos hok]; exact bZ_or _
    refine m_if_eq (x := rSameV A a b) (tgt := 15) hx hb dL_same_8 (by decide) (by omega) (fun cv => ?_) (fun cv => ?_)
    · refine lv_lconst (v := (iv (rSameV A a b)).toInt64) hx hb dL_same_15 (by rw [cv]; decide +kernel) ?_
      refine m_last (n := 1) (i := 0) hC X s7 (by decide +kernel) (by decide) (by decide) dL_same_16 (fun H locs X => ?_)
      refine lv_goto (tgt := 24) hx hb dL_same_17 (by decide) ?_
      refine lv_iconst (v := iv 0) hx hb dL_same_24 rfl ?_
      exact x_ret (Nat.le_of_ble_eq_true rfl) (Nat.le_of_ble_eq_true rfl) (m_iret hC X hr hlk (w_ok (by rw [up_s]; exact if_pos hok) (up_k _ _ (by decide)) (KK_0 hK (by rw [if_pos hok]; omega)) ((z_CR _).mpr hc) (by omega) (cfr.rf μ) hNS) dL_same_25)
    · have cv : rSameV A a b = 1 := by omega
      refine lv_lconst (v := (iv (rSameV A a b)).toInt64) hx hb dL_same_11 (by rw [cv]; decide +kernel) ?_
      refine lv_goto (tgt := 16) hx hb dL_same_12 (by decide) ?_
      refine m_last (n := 1) (i := 0) hC X s7 (by decide +kernel) (by decide) (by decide) dL_same_16 (fun H locs X => ?_)
      refine lv_goto (tgt := 24) hx hb dL_same_17 (by decide) ?_
      refine lv_iconst (v := iv 0) hx hb dL_same_24 rfl ?_
      exact x_ret (Nat.le_of_ble_eq_true rfl) (Nat.le_of_ble_eq_true rfl) (m_iret hC X hr hlk (w_ok (by rw [up_s]; exact if_pos hok) (up_k _ _ (by decide)) (KK_0 hK (by rw [if_pos hok]; omega)) ((z_CR _).mpr hc) (by omega) (cfr.rf μ) hNS) dL_same_25)
theorem HL_87 : mVh RL 87 yL_same cL_same 5 (some .int) [(0, 17, 20, 13)] 4 := ⟨by decide +kernel, by decide +kernel, by decide +kernel, by decide +kernel, by decide +kernel⟩
set_option maxHeartbeats 4000000 in
theorem k_L_where {G : mG} {l : Launch} {z : Nat} {ρ : Nat → Nat} {μ : mM} {A : rS} {P Gs : Nat → Prop} {cy : Int} {k : Int} (hl : l.stackTraces = false) (hc : CR A P cy μ) (hK : KK A P Gs) (hNS : NS A μ) (h7 : sh μ 7 = some (.inr (2, 1))) (hk0 : -2147483648 ≤ k ∧ k ≤ 2147483647) : MX (Cond.codeWith yL_where cL_where 4 (some .int) [(0, 9, 12, 13)]) G l yL_where 8 131 1 6 z ρ [.ref (ρ 0), .int (iv k), .ref (ρ 7)] μ (wP (up A 0 0 (if rReg k then 0 else 1)) (oJ (rWhereV A k)) cy μ z) (fun _ _ _ => False) := by
  refine MX.ofH (by decide) (by simp [Value.category]) (Nat.le_of_ble_eq_true rfl) (Nat.le_of_ble_eq_true rfl) ?_
  intro p e s m args below meth c ls H locs hC hx hb hr hlk hxt hxW hxZ X hL
  have f00 := hc.1.1.1
  refine m_aload_n hx hb hL dL_where_0 rfl ?_
  refine lv_iconst (v := iv 0) hx hb dL_where_1 rfl ?_
  refine m_aload_n hx hb hL dL_where_2 rfl ?_
  refine m_iload_n hx hb hL dL_where_3 rfl ?_
  refine x_callV hC hxW hxZ X (k_X5_where hl hc hK hk0) VL_41 f00 rfl ⟨by decide, by decide⟩ ⟨by decide, by decide⟩ hL.1 rfl (Nat.le_of_ble_eq_true rfl) dL_where_4 (fun E ce q μx zx H locs hpx X hce hcv hcl => ?_) (fun v μ1 z1 H locs hp X => ?_)
  · obtain ⟨h9, rfl, hzx⟩ := hpx
    rcases h9 with ⟨rfl, h9⟩ | ⟨rfl, h9⟩
    · refine vx_catch (own := RL) (name := XI) hC.2.2.2.1 [] ⟨0, 9, 12, 13⟩ [] (by rw [hxt]; rfl) (fun _ h => absurd h List.not_mem_nil) (by decide) (by decide) (hC.2.2.2.2.1 _ w_13) (hxW.1.2.1.use rfl) hce hcv hcl ?_
      refine m_astore_n (x := some q) hx hb hL dL_where_12 (Nat.le_of_ble_eq_true rfl) (fun ls hL => ?_)
      refine lv_iconst (v := iv 1) hx hb dL_where_13 rfl ?_
      exact x_ret (Nat.le_of_ble_eq_true rfl) (Nat.le_of_ble_eq_true rfl) (m_iret hC X hr hlk (w_err (k := 1) (by rw [if_neg h9]) (Or.inl rfl) hc hK hNS hzx) dL_where_14)
    · exact h9.elim
  · obtain ⟨hok, rfl, hm_, hz_⟩ := hp
    have hm_ := hm_.symm
    have hz_ := hz_.symm
    subst hm_
    subst hz_
    have s7 := h7
    refine lv_i2l (v := (iv (rWhereV A k)).toInt64) hx hb dL_where_7 rfl ?_
    refine m_last (n := 1) (i := 0) hC X s7 (by decide +kernel) (by decide) (by decide) dL_where_8 (fun H locs X => ?_)
    refine lv_goto (tgt := 15) hx hb dL_where_9 (by decide) ?_
    refine lv_iconst (v := iv 0) hx hb dL_where_15 rfl ?_
    exact x_ret (Nat.le_of_ble_eq_true rfl) (Nat.le_of_ble_eq_true rfl) (m_iret hC X hr hlk (w_ok (by rw [up_s]; exact if_pos hok) (up_k _ _ (by decide)) (KK_0 hK (by rw [if_pos hok]; omega)) ((z_CR _).mpr hc) (by omega) (cfr.rf μ) hNS) dL_where_16)
theorem HL_91 : mVh RL 91 yL_where cL_where 4 (some .int) [(0, 9, 12, 13)] 3 := ⟨by decide +kernel, by decide +kernel, by decide +kernel, by decide +kernel, by decide +kernel⟩
set_option maxHeartbeats 4000000 in
theorem k_L_work {G : mG} {l : Launch} {z : Nat} {ρ : Nat → Nat} {μ : mM} {A : rS} {P Gs : Nat → Prop} {cy : Int} {n : Int} (hl : l.stackTraces = false) (hc : CR A P cy μ) (hK : KK A P Gs) (hNS : NS A μ) (h7 : sh μ 7 = some (.inr (2, 1))) (hn0 : -2147483648 ≤ n ∧ n ≤ 2147483647) : MX (Cond.codeWith yL_work cL_work 4 (some .int) [(0, 9, 12, 15)]) G l yL_work 7 137 1 6 z ρ [.ref (ρ 0), .int (iv n), .ref (ρ 7)] μ (wP (rWork A n) (oJ (rWorkV A n)) cy μ z) (fun _ _ _ => False) := by
  refine MX.ofH (by decide) (by simp [Value.category]) (Nat.le_of_ble_eq_true rfl) (Nat.le_of_ble_eq_true rfl) ?_
  intro p e s m args below meth c ls H locs hC hx hb hr hlk hxt hxW hxZ X hL
  have f00 := hc.1.1.1
  refine m_aload_n hx hb hL dL_work_0 rfl ?_
  refine lv_iconst (v := iv 0) hx hb dL_work_1 rfl ?_
  refine m_aload_n hx hb hL dL_work_2 rfl ?_
  refine m_iload_n hx hb hL dL_work_3 rfl ?_
  refine x_callV hC hxW hxZ X (k_X5_work hl hc hK hn0) VL_44 f00 rfl ⟨by decide, by decide⟩ ⟨by decide, by decide⟩ hL.1 rfl (Nat.le_of_ble_eq_true rfl) dL_work_4 (fun E ce q μx zx H locs hpx X hce hcv hcl => ?_) (fun v μ1 z1 H locs hp X => ?_)
  · obtain ⟨h9, rfl, hzx⟩ := hpx
    rcases h9 with ⟨rfl, h9⟩ | ⟨rfl, h9⟩
    · exact h9.elim
    · refine vx_catch (own := RL) (name := XA) hC.2.2.2.1 [] ⟨0, 9, 12, 15⟩ [] (by rw [hxt]; rfl) (fun _ h => absurd h List.not_mem_nil) (by decide) (by decide) (hC.2.2.2.2.1 _ w_15) (hxW.1.2.2.1.use rfl) hce hcv hcl ?_
      refine m_astore_n (x := some q) hx hb hL dL_work_12 (Nat.le_of_ble_eq_true rfl) (fun ls hL => ?_)
      refine lv_iconst (v := iv 1) hx hb dL_work_13 rfl ?_
      exact x_ret (Nat.le_of_ble_eq_true rfl) (Nat.le_of_ble_eq_true rfl) (m_iret hC X hr hlk (w_err (k := 1) (by unfold rWork; rw [if_neg h9]) (Or.inl rfl) hc hK hNS hzx) dL_work_14)
  · obtain ⟨hok, rfl, hz_, hc2, hf2⟩ := hp
    have hz_ := hz_.symm
    subst hz_
    have s7 : sh μ1 7 = some (.inr (2, 1)) := by rw [hf2.1 7]; exact h7
    refine lv_i2l (v := (iv (rWorkV A n)).toInt64) hx hb dL_work_7 rfl ?_
    refine m_last (n := 1) (i := 0) hC X s7 (by decide +kernel) (by decide) (by decide) dL_work_8 (fun H locs X => ?_)
    refine lv_goto (tgt := 15) hx hb dL_work_9 (by decide) ?_
    refine lv_iconst (v := iv 0) hx hb dL_work_15 rfl ?_
    exact x_ret (Nat.le_of_ble_eq_true rfl) (Nat.le_of_ble_eq_true rfl) (m_iret hC X hr hlk (w_ok (wk_06 hok).1 (wk_06 hok).2 (wk_KK hK hok) hc2 (by omega) hf2 hNS) dL_work_16)
theorem HL_98 : mVh RL 98 yL_work cL_work 4 (some .int) [(0, 9, 12, 15)] 3 := ⟨by decide +kernel, by decide +kernel, by decide +kernel, by decide +kernel, by decide +kernel⟩
set_option maxHeartbeats 4000000 in
theorem k_L_region {G : mG} {l : Launch} {z : Nat} {ρ : Nat → Nat} {μ : mM} {A : rS} {P Gs : Nat → Prop} {cy : Int} {i w : Int} (hl : l.stackTraces = false) (hc : CR A P cy μ) (hK : KK A P Gs) (hNS : NS A μ) (h7 : sh μ 7 = some (.inr (2, 1))) (hi0 : -2147483648 ≤ i ∧ i ≤ 2147483647) (hw0 : -2147483648 ≤ w ∧ w ≤ 2147483647) : MX (Cond.codeWith yL_region cL_region 5 (some .int) [(0, 10, 13, 13)]) G l yL_region 7 113 1 6 z ρ [.ref (ρ 0), .int (iv i), .int (iv w), .ref (ρ 7)] μ (wP (up A 0 0 (if 0 ≤ i ∧ i < A 1 0 then 0 else 1)) (oJ (rRegionV A i w)) cy μ z) (fun _ _ _ => False) := by
  refine MX.ofH (by decide) (by simp [Value.category]) (Nat.le_of_ble_eq_true rfl) (Nat.le_of_ble_eq_true rfl) ?_
  intro p e s m args below meth c ls H locs hC hx hb hr hlk hxt hxW hxZ X hL
  have f00 := hc.1.1.1
  refine m_aload_n hx hb hL dL_region_0 rfl ?_
  refine lv_iconst (v := iv 0) hx hb dL_region_1 rfl ?_
  refine m_aload_n hx hb hL dL_region_2 rfl ?_
  refine m_iload_n hx hb hL dL_region_3 rfl ?_
  refine m_iload_n hx hb hL dL_region_4 rfl ?_
  refine x_callV hC hxW hxZ X (k_X5_region hl hc hK hi0 hw0) VL_47 f00 rfl ⟨by decide, by decide⟩ ⟨by decide, by decide⟩ hL.1 rfl (Nat.le_of_ble_eq_true rfl) dL_region_5 (fun E ce q μx zx H locs hpx X hce hcv hcl => ?_) (fun v μ1 z1 H locs hp X => ?_)
  · obtain ⟨h9, rfl, hzx⟩ := hpx
    rcases h9 with ⟨rfl, h9⟩ | ⟨rfl, h9⟩
    · refine vx_catch (own := RL) (name := XI) hC.2.2.2.1 [] ⟨0, 10, 13, 13⟩ [] (by rw [hxt]; rfl) (fun _ h => absurd h List.not_mem_nil) (by decide) (by decide) (hC.2.2.2.2.1 _ w_13) (hxW.1.2.1.use rfl) hce hcv hcl ?_
      refine m_astore (x := some q) hx hb hL dL_region_13 (Nat.le_of_ble_eq_true rfl) (fun ls hL => ?_)
      refine lv_iconst (v := iv 1) hx hb dL_region_15 rfl ?_
      exact x_ret (Nat.le_of_ble_eq_true rfl) (Nat.le_of_ble_eq_true rfl) (m_iret hC X hr hlk (w_err (k := 1) (by rw [if_neg h9]) (Or.inl rfl) hc hK hNS hzx) dL_region_16)
    · exact h9.elim
  · obtain ⟨hok, rfl, hm_, hz_⟩ := hp
    have hm_ := hm_.symm
    have hz_ := hz_.symm
    subst hm_
    subst hz_
    have s7 := h7
    refine lv_i2l (v := (iv (rRegionV A i w)).toInt64) hx hb dL_region_8 rfl ?_
    refine m_last (n := 1) (i := 0) hC X s7 (by decide +kernel) (by decide) (by decide) dL_region_9 (fun H locs X => ?_)
    refine lv_goto (tgt := 17) hx hb dL_region_10 (by decide) ?_
    refine lv_iconst (v := iv 0) hx hb dL_region_17 rfl ?_
    exact x_ret (Nat.le_of_ble_eq_true rfl) (Nat.le_of_ble_eq_true rfl) (m_iret hC X hr hlk (w_ok (by rw [up_s]; exact if_pos hok) (up_k _ _ (by decide)) (KK_0 hK (by rw [if_pos hok]; omega)) ((z_CR _).mpr hc) (by omega) (cfr.rf μ) hNS) dL_region_18)
theorem HL_105 : mVh RL 105 yL_region cL_region 5 (some .int) [(0, 10, 13, 13)] 4 := ⟨by decide +kernel, by decide +kernel, by decide +kernel, by decide +kernel, by decide +kernel⟩
