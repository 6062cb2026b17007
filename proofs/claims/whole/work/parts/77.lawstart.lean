/-! the law, from its entry -/
theorem scr_b {b L : Nat} {xs : Nat → Int32} (U : State) (g : JFrame) (mk : MethodId) (a : Array Value) (h : scr b L xs U) : scr b L xs (U.calling g mk a) := va_X.moved (u := U) (U := U.calling g mk a) (Vm.Alike.refl U.vm) h
set_option maxHeartbeats 4000000 in
/-- from the entry, for every script of at most 2050 ints, the law comes to its end with true -/
theorem whole_start {p : Program} {e : Env} {s : State} {m : MethodId} {below : List Frame} {meth : Method} {c : Code} (l : Launch) (hl : l.stackTraces = false) {b L : Nat} {xs : Nat → Int32} (hL : L ≤ 2050) (C0 : lw_At p s m meth c b L xs) : W p l e room_1 s m #[Value.ref b] below meth c s.heap [] 0 0 (lw_Z below #[Value.ref b] s) (entryFrame m ([Value.ref b] : List Value).toArray 7) := by
  obtain ⟨hx, hb, hr, hml, hown, hts, hX, hbl, hlk, hgv⟩ := C0
  have hL0 := hL
  clear hL
  obtain ⟨G, hK⟩ := mK_ex hts
  have hC : mC G p c cL_law 7 s m #[Value.ref b] RL := ⟨hx, hb, hml, hown, fun w h => hts w (aw_tbl h), hK⟩
  have hb : c.code = cL_law := hb
  have hxW := xW_of hts hgv hK
  have hxZ := xZ_of hts hgv
  have hN : nst s := va_Nw.of rfl (hts (.methodLinkNest RX0 26 yX4_init "ForwardHeap") (by decide +kernel))
  have hbA : ¬ s.heap.size ≤ b := by omega
  have CC : LC G p l c s m #[Value.ref b] b L xs := ⟨hl, hC, hxW, hxZ, hX, hbl, hL0⟩
  obtain ⟨h, eh⟩ : ∃ h, h = s.heap.size := ⟨_, rfl⟩
  obtain ⟨rx, erx⟩ : ∃ rx : Int, rx = if (0 : Int) < (L : Int) then sx xs 0 else 0 := ⟨_, rfl⟩
  obtain ⟨tx, etx⟩ : ∃ tx : Int, tx = if (1 : Int) < (L : Int) then sx xs 1 else 0 := ⟨_, rfl⟩
  have hrx : rng rx := by rw [erx]; split; exact sx_rg xs 0; omega
  have htx : rng tx := by rw [etx]; split; exact sx_rg xs 1; omega
  obtain ⟨n, hn⟩ : ∃ n : Nat, clp 3 16 rx = (n : Int) := ⟨(clp 3 16 rx).toNat, by unfold clp; split <;> (try split) <;> omega⟩
  have hnb : 3 ≤ n ∧ n ≤ 16 := by unfold clp at hn; split at hn <;> (try split at hn) <;> omega
  have hth : 0 ≤ clp 0 128 tx ∧ clp 0 128 tx ≤ 128 := by unfold clp; split <;> (try split) <;> omega
  obtain ⟨ρ, eρ⟩ : ∃ ρ : Nat → Nat, ρ = ini h n := ⟨_, rfl⟩
  have ri : ∀ a, ρ a = ini h n a := fun a => by rw [eρ]
  have rr : ∀ r, ρ (aRg r) = h + 5 + 2 * r ∧ ρ (aSt r) = h + 6 + 2 * r := fun r => by rw [eρ]; exact ini_r h n r
  have em : ∀ a x, sh e0 a = some x → False := fun a x q => by
    have q : (none : Option mS) = some x := q
    cases q
  have X : mX G ρ (fun q => s.heap.size ≤ q) s.heap e0 h s.heap [] := ⟨⟨fun a x q => (em a x q).elim, fun a d x y q => (em a x q).elim, fun a x k d q => (em a x q).elim⟩, va_S.rf, fun a x q => (em a x q).elim, fun q hq => hq, eh.symm⟩
  have hbM : ∀ {μ : mM} {z : Nat} {H : Heap} {locs : List Loc}, mX G ρ (fun q => s.heap.size ≤ q) s.heap μ z H locs → ¬ mA ρ μ z b := fun X q => hbA (X.sub b q)
  have hE : ∀ {μ : mM} {z : Nat} {H : Heap} {locs : List Loc}, mX G ρ (fun q => s.heap.size ≤ q) s.heap μ z H locs → ∀ U : State, U.heap = H → s.WarmedH U.vm → scr b L xs U := fun X U hU hW => by
    show va_X b L xs U U.heap
    rw [hU]
    exact va_X.moved hW.alike (hX.kept (X.2.1.2.1 b hbl hbA))
  rw [lg_entry_eq]
  have hL := lq_entry (As := [Value.ref b]) (n := 7) (Nat.le_of_ble_eq_true rfl) (by simp [Value.category]) (Nat.le_of_ble_eq_true rfl)
  generalize (lg_sl [Value.ref b] ++ List.replicate (7 - (lg_sl [Value.ref b]).length) Slot.unset).toArray = ls at hL ⊢
  show W p l e (rm 12 434 601024 7293000) s m #[Value.ref b] below meth c s.heap [] 0 0 (lw_Z below #[Value.ref b] s) (F0 m 0 ls [])
  refine m_new (a := 0) hC X NL_8 rfl (ri 0) (by decide) (by decide) dL_law_0 (fun H X => ?_)
  refine lv_dup hx hb dL_law_3 rfl ?_
  refine m_aload_n hx hb hL dL_law_4 rfl ?_
  refine lv_iconst (v := iv 0) hx hb dL_law_5 rfl ?_
  refine e_callS hC scr_b (hE X) X (k_L_cell (j := 0) hL0 (by omega) (by omega) (hbM X)) VL_51 rfl ⟨by decide, by decide⟩ ⟨by decide, by decide⟩ hL.1 rfl (Nat.le_of_ble_eq_true rfl) dL_law_6 (fun v4 μ4 z4 H locs hp X => ?_)
  obtain ⟨rfl, hm_, hz_⟩ := hp
  have hm_ := hm_.symm
  have hz_ := hz_.symm
  subst hm_
  subst hz_
  rw [← erx]
  refine m_aload_n hx hb hL dL_law_9 rfl ?_
  refine lv_iconst (v := iv 1) hx hb dL_law_10 rfl ?_
  refine e_callS hC scr_b (hE X) X (k_L_cell (j := 1) hL0 (by omega) (by omega) (hbM X)) VL_51 rfl ⟨by decide, by decide⟩ ⟨by decide, by decide⟩ hL.1 rfl (Nat.le_of_ble_eq_true rfl) dL_law_11 (fun v9 μ9 z9 H locs hp X => ?_)
  obtain ⟨rfl, hm_, hz_⟩ := hp
  have hm_ := hm_.symm
  have hz_ := hz_.symm
  subst hm_
  subst hz_
  rw [← etx]
  refine e_callI (b := 0) hC nst_b (fun U _ hW => hN.warmM hW) X (k_X5_init (n := n) hrx htx hn rfl rfl rfl rfl rfl rfl (fun r => ⟨by rw [sh_N, if_neg (aRg_f (by decide))]; rfl, by rw [sh_N, if_neg (aSt_f (by decide))]; rfl⟩) (ri 1) (ri 2) (ri 4) (ri 5) (fun r _ => ⟨(rr r).1.trans (by omega), (rr r).2.trans (by omega)⟩) ((ri 3).trans (by show h + 5 + 2 * n = h + 1 + 4 + 2 * n; omega))) VL_57 rfl ⟨by decide, by decide⟩ ⟨by decide, by decide⟩ hL.1 rfl (Nat.le_of_ble_eq_true rfl) dL_law_14 (fun v14 μ14 z14 H locs hp X => ?_)
  obtain ⟨rfl, ⟨ν, hG, hm_⟩, hz_⟩ := hp
  have hm_ : cl0 ν (clp 0 128 tx) = μ14 := hm_.symm
  have hz_ := hz_.symm
  subst hm_
  subst hz_
  have nsA := NS_0 (th := clp 0 128 tx) hG
  have hCR := CR_0 (th := clp 0 128 tx) hG
  refine c_astore_nr hx hb hL dL_law_17 (Nat.le_of_ble_eq_true rfl) (fun ls hL => ?_)
  refine m_new (a := 6) hC X NL_59 (nsA 6 (by decide) (fun r q => by unfold aRg at q; omega) (fun r q => by unfold aSt at q; omega)) ((ri 6).trans (by show h + 6 + 2 * n = h + 1 + 5 + 2 * n; omega)) (by decide) (by decide) dL_law_18 (fun H X => ?_)
  refine lv_dup hx hb dL_law_21 rfl ?_
  refine m_aload_n hx hb hL dL_law_22 rfl ?_
  refine lv_iconst (v := iv 0) hx hb dL_law_23 rfl ?_
  refine e_callS hC scr_b (hE X) X (k_L_cell (j := 0) hL0 (by omega) (by omega) (hbM X)) VL_51 rfl ⟨by decide, by decide⟩ ⟨by decide, by decide⟩ hL.1 rfl (Nat.le_of_ble_eq_true rfl) dL_law_24 (fun v22 μ22 z22 H locs hp X => ?_)
  obtain ⟨rfl, hm_, hz_⟩ := hp
  have hm_ := hm_.symm
  have hz_ := hz_.symm
  subst hm_
  subst hz_
  rw [← erx]
  refine m_aload_n hx hb hL dL_law_27 rfl ?_
  refine lv_iconst (v := iv 1) hx hb dL_law_28 rfl ?_
  refine e_callS hC scr_b (hE X) X (k_L_cell (j := 1) hL0 (by omega) (by omega) (hbM X)) VL_51 rfl ⟨by decide, by decide⟩ ⟨by decide, by decide⟩ hL.1 rfl (Nat.le_of_ble_eq_true rfl) dL_law_29 (fun v27 μ27 z27 H locs hp X => ?_)
  obtain ⟨rfl, hm_, hz_⟩ := hp
  have hm_ := hm_.symm
  have hz_ := hz_.symm
  subst hm_
  subst hz_
  rw [← etx]
  refine m_callI (b := 6) hC X (k_X6_init (x := rx) (t := tx) hrx htx (by rw [sh_N, if_pos rfl]) (fun k => by rw [mi_N, if_pos rfl]; rfl) (fun k => by rw [sh_N, if_neg (fun q => aK_6 k q.symm)]; exact nsA _ (by unfold aK; omega) (fun r q => by unfold aK aRg at q; omega) (fun r q => by unfold aK aSt at q; omega)) ⟨(ri (aK 3)).trans (by show h + 7 + 2 * n = h + 1 + 5 + 2 * n + 1 + 0; omega), (ri (aK 4)).trans (by show h + 8 + 2 * n = h + 1 + 5 + 2 * n + 1 + 1; omega), (ri (aK 5)).trans (by show h + 9 + 2 * n = h + 1 + 5 + 2 * n + 1 + 2; omega), (ri (aK 7)).trans (by show h + 10 + 2 * n = h + 1 + 5 + 2 * n + 1 + 3; omega), (ri (aK 8)).trans (by show h + 11 + 2 * n = h + 1 + 5 + 2 * n + 1 + 4; omega), (ri (aK 9)).trans (by show h + 12 + 2 * n = h + 1 + 5 + 2 * n + 1 + 5; omega), (ri (aK 10)).trans (by show h + 13 + 2 * n = h + 1 + 5 + 2 * n + 1 + 6; omega), (ri (aK 11)).trans (by show h + 14 + 2 * n = h + 1 + 5 + 2 * n + 1 + 7; omega), (ri (aK 12)).trans (by show h + 15 + 2 * n = h + 1 + 5 + 2 * n + 1 + 8; omega), (ri (aK 13)).trans (by show h + 16 + 2 * n = h + 1 + 5 + 2 * n + 1 + 9; omega), (ri (aK 14)).trans (by show h + 17 + 2 * n = h + 1 + 5 + 2 * n + 1 + 10; omega), (ri (aK 15)).trans (by show h + 18 + 2 * n = h + 1 + 5 + 2 * n + 1 + 11; omega)⟩) VL_61 rfl ⟨by decide, by decide⟩ ⟨by decide, by decide⟩ hL.1 rfl (Nat.le_of_ble_eq_true rfl) dL_law_32 (fun v32 μ32 z32 H locs hp X => ?_)
  obtain ⟨rfl, hRR, hro, hz_⟩ := hp
  have hz_ := hz_.symm
  subst hz_
  rw [hn] at hRR
  have nr7 : ¬ rad 7 := fun q => q.elim (fun q => absurd q (by decide)) (fun ⟨k, q⟩ => by unfold aK at q; omega)
  have s7 : sh μ32 7 = none := by
    rw [(hro 7 nr7).1, sh_N, if_neg (by decide)]
    exact nsA 7 (by decide) (fun r q => by unfold aRg at q; omega) (fun r q => by unfold aSt at q; omega)
  refine c_astore_nr hx hb hL dL_law_35 (Nat.le_of_ble_eq_true rfl) (fun ls hL => ?_)
  refine lv_iconst (v := iv 1) hx hb dL_law_36 rfl ?_
  refine m_newarr (a := 7) (t := 2) (n := 1) hC X (by decide) rfl AC_long (by decide +kernel) (by decide) s7 ((ri 7).trans (by show h + 19 + 2 * n = h + 1 + 5 + 2 * n + 1 + 12; omega)) (by decide) (by decide) dL_law_37 (fun H X => ?_)
  refine c_astore_nr hx hb hL dL_law_39 (Nat.le_of_ble_eq_true rfl) (fun ls hL => ?_)
  refine lv_iconst (v := iv 2) hx hb dL_law_40 rfl ?_
  refine m_istore hx hb hL dL_law_41 (Nat.le_of_ble_eq_true rfl) (fun ls hL => ?_)
  refine W_widen (k := 52 + 4 * 0) (n := 19628 + 33 * 0) (by decide) (by decide) ?_
  have hNS : NS (A0 (n : Int) (clp 0 128 tx)) (newC μ32 7 (.inr (2, 1))) := fun o _ => by
    have no : ¬ rad (aOb o) := cad_rad (cad_o o)
    have nd : ¬ rad (aFd o) := cad_rad (cad_d o)
    have o7 : aOb o ≠ 7 := cad_7 (cad_o o)
    have d7 : aFd o ≠ 7 := cad_7 (cad_d o)
    have o6 : aOb o ≠ 6 := fun q => no (Or.inl q)
    have d6 : aFd o ≠ 6 := fun q => nd (Or.inl q)
    exact ⟨by rw [sh_N, if_neg o7, (hro _ no).1, sh_N, if_neg o6]; exact nsA _ (by unfold aOb; omega) (fun r q => by unfold aOb aRg at q; omega) (fun r q => by unfold aOb aSt at q; omega), by rw [sh_N, if_neg d7, (hro _ nd).1, sh_N, if_neg d6]; exact nsA _ (by unfold aFd; omega) (fun r q => by unfold aFd aRg at q; omega) (fun r q => by unfold aFd aSt at q; omega)⟩
  exact law_loop CC hr hlk 513 0 2 ρ _ _ _ _ ls (by decide) (by decide) (by decide) ⟨A0 (n : Int) (clp 0 128 tx), fun _ => False, fun _ => False, 0, X, new7_RR hRR, new7_CR n7 (rof_CR hro (new7_CR n6 hCR)), KK_00 (by omega) hth, hNS, by rw [sh_N, if_pos rfl], by rw [A0_k (by decide) (by decide) (by decide)]; decide, by decide⟩ hL
