/-! alloc (printed by wip/tools/cls9.py) -/
def aP (A : rS) (r c t cy : Int) (μ : mM) (z : Nat) : Option Value → mM → Nat → Prop := fun v μ' z' => v = some (.int (iv (rAllocV A r c t))) ∧ z ≤ z' ∧ (∃ (P' G' : Nat → Prop) (cy' : Int), KK (rAlloc A r c t) P' G' ∧ CR (rAlloc A r c t) P' cy' μ' ∧ cy' ≤ cy + 1) ∧ wfr μ μ' ∧ NS (rAlloc A r c t) μ'

set_option maxHeartbeats 4000000 in
theorem k_X5_alloc {G : mG} {l : Launch} {z : Nat} {ρ : Nat → Nat} {μ : mM} {A : rS} {P Gs : Nat → Prop} {cy : Int} {r fc t : Int} (hl : l.stackTraces = false) (hc : CR A P cy μ) (hK : KK A P Gs) (hcy : cy < 2000) (h512 : A 6 0 < 512) (hNS : NS A μ) (hz1 : ρ (aOb (nn A)) = z) (hz2 : ρ (aFd (nn A)) = z + 1) (hr0 : -2147483648 ≤ r ∧ r ≤ 2147483647) (hfc0 : -2147483648 ≤ fc ∧ fc ≤ 2147483647) (ht0 : -2147483648 ≤ t ∧ t ≤ 2147483647) : MX (Cond.code yX5_alloc cX5_alloc 7 (some .int)) G l yX5_alloc 7 136 3 33 z ρ [.ref (ρ 0), .int (iv r), .int (iv fc), .int (iv t)] μ (yP (rAllocOk r fc) (aP A r fc t cy μ z)) (xP (¬ rReg r) XA (rReg r ∧ ¬ (0 ≤ fc ∧ fc ≤ 20)) μ z) := by
  refine MX.of (by decide) (by simp [Value.category]) (Nat.le_of_ble_eq_true rfl) (Nat.le_of_ble_eq_true rfl) ?_
  intro p e s m args below meth c ls H locs hC hx hb hr hlk hxt hxW hxZ X hL
  have hc := (z_CR 0).mpr hc
  have hK := KK_0 (v := 0) hK (by omega)
  obtain ⟨h1, h2, h3, h4, h5, h6, h7, h8, hcy0, hcy1⟩ := id hc
  obtain ⟨⟨f00, f01, f02⟩, ⟨f10, f11, f12⟩, ⟨f20, f21, f22⟩, ⟨f30, f40, f50⟩, frr, foo⟩ := id h1
  obtain ⟨g1, g3, g4, g5, g6, g7⟩ := id h2
  refine m_iload_n hx hb hL dX5_alloc_0 rfl ?_
  refine x_callS hC hxW hxZ X (k_X5_checkRegister (k := r) hl hr0) VX5_27 rfl ⟨by decide, by decide⟩ ⟨by decide, by decide⟩ hL.1 rfl (Nat.le_of_ble_eq_true rfl) dX5_alloc_1 (fun E ce q μx zx H locs hpx X hce hcv hcl => ?_) (fun v1 μ1 z1 H locs hp X => ?_)
  · obtain ⟨h9, rfl, hzx⟩ := hpx
    have hn9 : ¬ rReg r := h9.elim (fun q => q.2) (fun q => q.2.elim)
    have hE9 : E = XI := h9.elim (fun q => q.1) (fun q => q.2.elim)
    exact x_out hxt hlk X hce hcv hcl ⟨Or.inl ⟨hE9, hn9⟩, rfl, hzx⟩ (by decide) (by decide)
  · obtain ⟨hregr, rfl, hm_, hz_⟩ := hp
    have hm_ := hm_.symm
    have hz_ := hz_.symm
    subst hm_
    subst hz_
    refine m_iload_n hx hb hL dX5_alloc_4 rfl ?_
    refine m_if_lt (tgt := 14) hx hb dX5_alloc_5 (by decide) (by omega) (fun c5 => ?_) (fun c5 => ?_)
    · exact x_throw (is := 33) hC hl hxt hlk hxW hxZ X (by decide +kernel) x_wA.1 x_wA.2.1 x_wA.2.2.1 (by decide) hxW.1.2.2.1 x_wA.2.2.2.1 x_wA.2.2.2.2 hL.1 dX5_alloc_14 dX5_alloc_17 dX5_alloc_18 dX5_alloc_20 dX5_alloc_23 (by decide) (Nat.le_of_ble_eq_true rfl) (by decide) (by decide) (by decide) (fun z9 hz9 => ⟨Or.inr ⟨rfl, hregr, by omega⟩, rfl, hz9⟩) (by decide) (by decide)
    · refine m_iload_n hx hb hL dX5_alloc_8 rfl ?_
      refine lv_bipush (v := iv 20) hx hb dX5_alloc_9 (by decide +kernel) ?_
      refine m_icmp_le (tgt := 24) hx hb dX5_alloc_11 (by decide) (by omega) (by omega) (fun c11 => ?_) (fun c11 => ?_)
      · refine m_iload_n hx hb hL dX5_alloc_24 rfl ?_
        refine lv_iconst (v := iv 2) hx hb dX5_alloc_25 rfl ?_
        refine m_iadd hx hb dX5_alloc_26 ?_
        refine m_istore hx hb hL dX5_alloc_27 (Nat.le_of_ble_eq_true rfl) (fun ls hL => ?_)
        refine m_aload_n hx hb hL dX5_alloc_29 rfl ?_
        refine m_getr (b := 2) hC X FX5_26 f00 rfl f02 dX5_alloc_30 ?_
        refine m_iload hx hb hL dX5_alloc_33 rfl ?_
        by_cases hw1 : rWith (rHas (up A 0 0 0) (fc + 2)) 1 = -1
        · refine c_callV hC X (k_X2_activeWithRoom (n := fc + 2) hc hK (by omega)) VX5_38 f20 rfl ⟨by decide, by decide⟩ ⟨by decide, by decide⟩ hL.1 rfl (Nat.le_of_ble_eq_true rfl) dX5_alloc_35 (fun v35 μ35 z35 H locs hp X => ?_)
          obtain ⟨hv_, hz_, hc2, hf2⟩ := hp
          rw [hw1, rref_n] at hv_
          have hv_ : v35 = some (.null) := hv_
          have hz_ := hz_.symm
          subst hv_
          subst hz_
          have hc := hc2
          have hfr := hf2
          have hK1 := has_KK (n := fc + 2) hK
          obtain ⟨h1, h2, h3, h4, h5, h6, h7, h8, hcy0, hcy1⟩ := id hc
          obtain ⟨⟨f00, f01, f02⟩, ⟨f10, f11, f12⟩, ⟨f20, f21, f22⟩, ⟨f30, f40, f50⟩, frr, foo⟩ := id h1
          obtain ⟨g1, g3, g4, g5, g6, g7⟩ := id h2
          refine c_astoren hx hb hL dX5_alloc_38 (Nat.le_of_ble_eq_true rfl) (fun ls hL => ?_)
          refine m_aloadq (x := none) hx hb hL dX5_alloc_40 rfl ?_
          refine lv_ifnonnullN hx hb dX5_alloc_42 ?_
          refine m_aload_n hx hb hL dX5_alloc_45 rfl ?_
          refine m_getr (b := 1) hC X FX5_18 f00 rfl f01 dX5_alloc_46 ?_
          refine c_callV hC X (k_X0_collectWhole hc hK1 hcy) VX5_44 f10 rfl ⟨by decide, by decide⟩ ⟨by decide, by decide⟩ hL.1 rfl (Nat.le_of_ble_eq_true rfl) dX5_alloc_49 (fun v49 μ49 z49 H locs hp X => ?_)
          obtain ⟨rfl, hz_, hc2, hf2⟩ := hp
          have hz_ := hz_.symm
          subst hz_
          have hc := hc2
          have hfr := hfr.tr hf2
          have hKW := (whole_KK hK1).1
          obtain ⟨h1, h2, h3, h4, h5, h6, h7, h8, hcy0, hcy1⟩ := id hc
          obtain ⟨⟨f00, f01, f02⟩, ⟨f10, f11, f12⟩, ⟨f20, f21, f22⟩, ⟨f30, f40, f50⟩, frr, foo⟩ := id h1
          obtain ⟨g1, g3, g4, g5, g6, g7⟩ := id h2
          refine m_aload_n hx hb hL dX5_alloc_52 rfl ?_
          refine m_getr (b := 2) hC X FX5_26 f00 rfl f02 dX5_alloc_53 ?_
          refine m_iload hx hb hL dX5_alloc_56 rfl ?_
          by_cases hw2 : rWith (rHas (rWhole (rHas (up A 0 0 0) (fc + 2))) (fc + 2)) 1 = -1
          · refine c_callV hC X (k_X2_activeWithRoom (n := fc + 2) hc hKW (by omega)) VX5_38 f20 rfl ⟨by decide, by decide⟩ ⟨by decide, by decide⟩ hL.1 rfl (Nat.le_of_ble_eq_true rfl) dX5_alloc_58 (fun v58 μ58 z58 H locs hp X => ?_)
            obtain ⟨hv_, hz_, hc2, hf2⟩ := hp
            rw [hw2, rref_n] at hv_
            have hv_ : v58 = some (.null) := hv_
            have hz_ := hz_.symm
            subst hv_
            subst hz_
            have hc := hc2
            have hfr := hfr.tr hf2
            have hK2 := has_KK (n := fc + 2) hKW
            obtain ⟨h1, h2, h3, h4, h5, h6, h7, h8, hcy0, hcy1⟩ := id hc
            obtain ⟨⟨f00, f01, f02⟩, ⟨f10, f11, f12⟩, ⟨f20, f21, f22⟩, ⟨f30, f40, f50⟩, frr, foo⟩ := id h1
            obtain ⟨g1, g3, g4, g5, g6, g7⟩ := id h2
            refine c_astoren hx hb hL dX5_alloc_61 (Nat.le_of_ble_eq_true rfl) (fun ls hL => ?_)
            refine m_aloadq (x := none) hx hb hL dX5_alloc_63 rfl ?_
            refine lv_ifnonnullN hx hb dX5_alloc_65 ?_
            refine lv_iconst (v := iv (-1)) hx hb dX5_alloc_68 rfl ?_
            have hv1 : ¬ rHasV (up A 0 0 0) (fc + 2) = 1 := fun q => (has_v hK (by omega)).mp q hw1
            have hv2 : ¬ rHasV (rWhole (rHas (up A 0 0 0) (fc + 2))) (fc + 2) = 1 := fun q => (has_v hKW (by omega)).mp q hw2
            have hok : rAllocOk r fc := ⟨hregr, by omega, by omega⟩
            have hAV : ¬ rAlV A fc = 1 := by unfold rAlV; rw [if_neg hv1]; exact hv2
            have hA1 : rAlloc A r fc t = (rHas (rWhole (rHas (up A 0 0 0) (fc + 2))) (fc + 2)) := by unfold rAlloc; rw [if_pos hok, if_neg hAV]; unfold rAl1; rw [if_neg hv1]
            have hA2 : rAllocV A r fc t = -1 := by unfold rAllocV; rw [if_pos hok, if_neg hAV]
            have e6 : (rHas (rWhole (rHas (up A 0 0 0) (fc + 2))) (fc + 2)) 6 0 = A 6 0 := by rw [has_k 6 0 (by decide), whole_fix 0 (by decide), has_k 6 0 (by decide)]; rfl
            exact x_ret (Nat.le_of_ble_eq_true rfl) (Nat.le_of_ble_eq_true rfl) (m_iret hC X hr hlk ⟨hok, by rw [hA2], Nat.le_refl _, ⟨_, _, cy + 1, by rw [hA1]; exact hK2, by rw [hA1]; exact hc, by omega⟩, hfr.w, by rw [hA1]; exact hNS.fr hfr.1 e6⟩ dX5_alloc_69)
          · refine c_callV hC X (k_X2_activeWithRoom (n := fc + 2) hc hKW (by omega)) VX5_38 f20 rfl ⟨by decide, by decide⟩ ⟨by decide, by decide⟩ hL.1 rfl (Nat.le_of_ble_eq_true rfl) dX5_alloc_58 (fun v58 μ58 z58 H locs hp X => ?_)
            obtain ⟨hv_, hz_, hc2, hf2⟩ := hp
            rw [rref_s hw2] at hv_
            have hv_ : v58 = some (.ref (ρ (aRg (rWith (rHas (rWhole (rHas (up A 0 0 0) (fc + 2))) (fc + 2)) 1).toNat))) := hv_
            have hz_ := hz_.symm
            subst hv_
            subst hz_
            have hc := hc2
            have hfr := hfr.tr hf2
            have hK2 := has_KK (n := fc + 2) hKW
            obtain ⟨h1, h2, h3, h4, h5, h6, h7, h8, hcy0, hcy1⟩ := id hc
            obtain ⟨⟨f00, f01, f02⟩, ⟨f10, f11, f12⟩, ⟨f20, f21, f22⟩, ⟨f30, f40, f50⟩, frr, foo⟩ := id h1
            obtain ⟨g1, g3, g4, g5, g6, g7⟩ := id h2
            refine c_astorer hx hb hL dX5_alloc_61 (Nat.le_of_ble_eq_true rfl) (fun ls hL => ?_)
            refine m_aload hx hb hL dX5_alloc_63 rfl ?_
            refine lv_ifnonnull (tgt := 70) hx hb dX5_alloc_65 (by decide) ?_
            have hv1 : ¬ rHasV (up A 0 0 0) (fc + 2) = 1 := fun q => (has_v hK (by omega)).mp q hw1
            have hv2 := (has_v hKW (by omega)).mpr hw2
            have hact := has_act hKW (by omega) hv2
            have hBe : rAl1 A fc = (rHas (rWhole (rHas (up A 0 0 0) (fc + 2))) (fc + 2)) := by unfold rAl1; rw [if_neg hv1]
            have hAV : rAlV A fc = 1 := by unfold rAlV; rw [if_neg hv1]; exact hv2
            have hKB := hK2
            have e6 : (rHas (rWhole (rHas (up A 0 0 0) (fc + 2))) (fc + 2)) 6 0 = A 6 0 := by rw [has_k 6 0 (by decide), whole_fix 0 (by decide), has_k 6 0 (by decide)]; rfl
            obtain ⟨B, hBE⟩ : ∃ B, B = (rHas (rWhole (rHas (up A 0 0 0) (fc + 2))) (fc + 2)) := ⟨_, rfl⟩
            rw [← hBE] at hc hKB hact hBe e6 hL
            obtain ⟨hw, hu⟩ := hact
            obtain ⟨h1, h2, h3, h4, h5, h6, h7, h8, hcy0, hcy1⟩ := id hc
            obtain ⟨⟨f00, f01, f02⟩, ⟨f10, f11, f12⟩, ⟨f20, f21, f22⟩, ⟨f30, f40, f50⟩, frr, foo⟩ := id h1
            obtain ⟨g1, g3, g4, g5, g6, g7⟩ := id h2
            have hN : nn B = nn A := by unfold nn; rw [e6]
            have hwb := rWith_some hw
            have b4w := hKB.1.1.b4 (rWith B 1).toNat
            have hrn : (rWith B 1).toNat < RN B := by unfold RN; omega
            obtain ⟨r1, r2, r3, r4, r5⟩ := frr _ hrn
            have ru := (h6 _ hrn).2.1
            have hNSB : NS B μ58 := hNS.fr hfr.1 e6
            have hns := hNSB (nn B) (Nat.le_refl _)
            have hok : rAllocOk r fc := ⟨hregr, by omega, by omega⟩
            refine m_new (a := aOb (nn B)) hC X NX5_47 hns.1 (by rw [hN]; exact hz1) (by decide) (by decide) dX5_alloc_70 (fun H X => ?_)
            refine lv_dup hx hb dX5_alloc_73 rfl ?_
            refine m_aload hx hb hL dX5_alloc_74 rfl ?_
            refine m_iload_n hx hb hL dX5_alloc_76 rfl ?_
            refine m_iload_n hx hb hL dX5_alloc_77 rfl ?_
            refine m_callI (b := aOb (nn B)) hC X (k_X1_init (o := aOb (nn B)) (f := aFd (nn B)) (r := aRg (rWith B 1).toNat) (by rw [sh_N, if_pos rfl]) (by rw [sh_N, if_neg (fun q => aOb_ne_aFd _ _ q.symm)]; exact hns.2) (by rw [hN]; exact hz2) (by rw [sh_N, if_neg (aRg_ne_aOb _ _)]; exact r2) (by omega)) VX5_49 rfl ⟨by decide, by decide⟩ ⟨by decide, by decide⟩ hL.1 rfl (Nat.le_of_ble_eq_true rfl) dX5_alloc_78 (fun v78 μ78 z78 H locs hp X => ?_)
            obtain ⟨rfl, hm_, hz_⟩ := hp
            have hz_ := hz_.symm
            subst hz_
            have s78 : ∀ a, sh μ78 a = if a = aFd (nn B) then some (.inr (3, fc.toNat)) else if a = aOb (nn B) then some (.inl 1) else sh μ58 a := fun a => by rw [hm_]; rfl
            have hne1 : aRg (rWith B 1).toNat ≠ aOb (nn B) := aRg_ne_aOb _ _
            have hne2 : aRg (rWith B 1).toNat ≠ aFd (nn B) := aRg_ne_aFd _ _
            have u78 : mi μ78 (aRg (rWith B 1).toNat) 3 = iv (B 4 (rWith B 1).toNat) := by rw [hm_, mi_ne (fun q => hne1 q.1), mi_ne (fun q => hne1 q.1), mi_Q, mi_N, if_neg hne2, mi_ne (fun q => hne1 q.1), mi_Q, mi_N, if_neg hne1]; exact ru
            have q78 : mq μ78 (aRg (rWith B 1).toNat) 1 = some (aSt (rWith B 1).toNat) := by rw [hm_, mq_I, mq_I, mq_ne (fun q => hne1 q.1), mq_N, if_neg hne2, mq_I, mq_ne (fun q => hne1 q.1), mq_N, if_neg hne1]; exact r3
            refine c_astorer hx hb hL dX5_alloc_81 (Nat.le_of_ble_eq_true rfl) (fun ls hL => ?_)
            refine m_aload hx hb hL dX5_alloc_83 rfl ?_
            refine m_aload hx hb hL dX5_alloc_85 rfl ?_
            refine c_callV hC X (k_X3_append (r := aRg (rWith B 1).toNat) (o := aOb (nn B)) (q := aSt (rWith B 1).toNat) (f := aFd (nn B)) (n := fc.toNat) (u := B 4 (rWith B 1).toNat) (by rw [s78, if_neg hne2, if_neg hne1]; exact r2) (by rw [s78, if_neg (aOb_ne_aFd _ _), if_pos rfl]) (by rw [s78, if_neg (aSt_ne_aFd _ _), if_neg (fun q => aOb_ne_aSt _ _ q.symm)]; exact r4) (by rw [hm_, mq_I, mq_I, mq_eq]) (by rw [s78, if_pos rfl]) u78 q78 (by omega)) VX5_52 (by rw [s78, if_neg hne2, if_neg hne1]; exact r2) rfl ⟨by decide, by decide⟩ ⟨by decide, by decide⟩ hL.1 rfl (Nat.le_of_ble_eq_true rfl) dX5_alloc_87 (fun v87 μ87 z87 H locs hp X => ?_)
            obtain ⟨rfl, hm2, hz_⟩ := hp
            have hz_ := hz_.symm
            subst hz_
            have e87 : μ87 = alM μ58 (nn B) (rWith B 1).toNat (B 4 (rWith B 1).toNat) fc t 0 0 := by rw [hm2, hm_]; unfold alM; dsimp only; rw [if_pos rfl]
            clear hm2 u78 q78 s78
            subst e87
            have nf : aOb (nn B) ≠ aFd (nn B) := aOb_ne_aFd _ _
            refine m_aload_n hx hb hL dX5_alloc_90 rfl ?_
            refine m_getr (b := 1) hC X FX5_18 (by rw [al_sh, if_neg (fun q => aFd_f (by decide) q.symm), if_neg (fun q => aOb_f (by decide) q.symm)]; exact f00) rfl (by rw [al_mq, if_neg (fun q => aSt_f (by decide) q.1.symm), if_neg (fun q => aOb_f (by decide) q.1.symm), if_neg (fun q => aOb_f (by decide) q.1.symm), if_neg (fun q => aFd_f (by decide) q.symm), if_neg (fun q => aOb_f (by decide) q.symm)]; exact f01) dX5_alloc_91 ?_
            refine m_aload hx hb hL dX5_alloc_94 rfl ?_
            refine c_callV hC X (k_X0_welcome (a := 1) (o := aOb (nn B)) (ph := B 18 0) (cy := (cy + 1)) (by rw [al_sh, if_neg (fun q => aFd_f (by decide) q.symm), if_neg (fun q => aOb_f (by decide) q.symm)]; exact f10) (by rw [al_sh, if_neg nf, if_pos rfl]) (by rw [al_mi _ _ (fun q => aOb_f (by decide) q.symm) (fun q => aFd_f (by decide) q.symm), if_neg (fun q => aRg_f (by decide) q.1.symm)]; exact g3) (by rw [al_mi _ _ (fun q => aOb_f (by decide) q.symm) (fun q => aFd_f (by decide) q.symm), if_neg (fun q => aRg_f (by decide) q.1.symm)]; exact g4) (hKB.1.1.b18 0)) VX5_58 (by rw [al_sh, if_neg (fun q => aFd_f (by decide) q.symm), if_neg (fun q => aOb_f (by decide) q.symm)]; exact f10) rfl ⟨by decide, by decide⟩ ⟨by decide, by decide⟩ hL.1 rfl (Nat.le_of_ble_eq_true rfl) dX5_alloc_96 (fun v96 μ96 z96 H locs hp X => ?_)
            obtain ⟨rfl, hm3, hz_⟩ := hp
            have hz_ := hz_.symm
            subst hz_
            have e96 : μ96 = alM μ58 (nn B) (rWith B 1).toNat (B 4 (rWith B 1).toNat) fc t (B 18 0) (cy + 1) := by rw [hm3]; unfold alM; dsimp only; rw [if_pos rfl]
            clear hm3
            subst e96
            refine m_aload_n hx hb hL dX5_alloc_99 rfl ?_
            refine m_getr (b := 2) hC X FX5_26 (by rw [al_sh, if_neg (fun q => aFd_f (by decide) q.symm), if_neg (fun q => aOb_f (by decide) q.symm)]; exact f00) rfl (by rw [al_mq, if_neg (fun q => aSt_f (by decide) q.1.symm), if_neg (fun q => aOb_f (by decide) q.1.symm), if_neg (fun q => aOb_f (by decide) q.1.symm), if_neg (fun q => aFd_f (by decide) q.symm), if_neg (fun q => aOb_f (by decide) q.symm)]; exact f02) dX5_alloc_100 ?_
            refine m_getr (b := 4) hC X FX5_61 (by rw [al_sh, if_neg (fun q => aFd_f (by decide) q.symm), if_neg (fun q => aOb_f (by decide) q.symm)]; exact f20) rfl (by rw [al_mq, if_neg (fun q => aSt_f (by decide) q.1.symm), if_neg (fun q => aOb_f (by decide) q.1.symm), if_neg (fun q => aOb_f (by decide) q.1.symm), if_neg (fun q => aFd_f (by decide) q.symm), if_neg (fun q => aOb_f (by decide) q.symm)]; exact f21) dX5_alloc_103 ?_
            refine m_iload_n hx hb hL dX5_alloc_106 rfl ?_
            refine m_aload hx hb hL dX5_alloc_107 rfl ?_
            refine c_aastr (b := aOb (nn B)) (x := r) hC X (by rw [al_sh, if_neg (fun q => aFd_f (by decide) q.symm), if_neg (fun q => aOb_f (by decide) q.symm)]; exact f40) (by omega) (by omega) (by omega) (by rw [al_sh, if_neg nf, if_pos rfl]) dX5_alloc_109 (fun H locs X => ?_)
            refine m_aload hx hb hL dX5_alloc_110 rfl ?_
            have f4 : aOb (nn B) ≠ 4 := aOb_f (by decide)
            refine c_callS hC X (k_X5_placeOf_s (o := aOb (nn B)) (r := aRg (rWith B 1).toNat) (n := (((rWith B 1).toNat : Nat) : Int)) (f := B 4 (rWith B 1).toNat) (by rw [sh_Q, al_sh, if_neg nf, if_pos rfl]) (by rw [sh_Q, al_sh, if_neg hne2, if_neg hne1]; exact r2) (by rw [mq_ne (fun q => f4 q.1), al_mq, if_neg (fun q => aOb_ne_aSt _ _ q.1), if_pos ⟨rfl, rfl⟩]) (by rw [mi_Q, al_mi _ _ hne1 hne2, if_neg (by omega)]; exact r5) (by rw [mi_Q, al_mo, if_neg (by omega), if_pos rfl])) VX5_65 rfl ⟨by decide, by decide⟩ ⟨by decide, by decide⟩ hL.1 rfl (Nat.le_of_ble_eq_true rfl) dX5_alloc_112 (fun v112 μ112 z112 H locs hp X => ?_)
            obtain ⟨rfl, hm_, hz_⟩ := hp
            have hm_ := hm_.symm
            have hz_ := hz_.symm
            subst hm_
            subst hz_
            obtain ⟨-, -, -, -, n7, n8, -⟩ := put_e (r := r) (c := fc) (t := t) hKB.1.1 (by omega)
            have b6 := hKB.1.1.b6 0
            have hA1 : rAlloc A r fc t = rPut B r fc t := by unfold rAlloc; rw [if_pos hok, if_pos hAV, hBe]
            have hA2 : rAllocV A r fc t = 128 * (((rWith B 1).toNat : Nat) : Int) + B 4 (rWith B 1).toNat := by
              unfold rAllocV
              rw [if_pos hok, if_pos hAV, hBe]
              unfold rPlace
              rw [if_neg (by omega), show (B 6 0).toNat = nn B from rfl, n7, n8]
              omega
            have hKF := put_KK (r := r) (c := fc) (t := t) hKB hregr (by omega) ht0 (by omega) hw hu
            have hCF := al_CR (r := r) (c := fc) (t := t) hKB hc hregr (by omega) hw hu
            have hNF := al_NS (r := r) (c := fc) (t := t) (w := (rWith B 1).toNat) (u := B 4 (rWith B 1).toNat) (ph := B 18 0) (cy := (cy + 1)) hKB.1.1 (by omega) hNSB
            rw [← hA1] at hKF hCF hNF
            exact x_ret (Nat.le_of_ble_eq_true rfl) (Nat.le_of_ble_eq_true rfl) (m_iret hC X hr hlk ⟨hok, by rw [hA2], by omega, ⟨_, _, (cy + 1), hKF, hCF, by omega⟩, (al_w _ hfr.w).Q (cad_f (by decide)) _ _, hNF⟩ dX5_alloc_115)
        · refine c_callV hC X (k_X2_activeWithRoom (n := fc + 2) hc hK (by omega)) VX5_38 f20 rfl ⟨by decide, by decide⟩ ⟨by decide, by decide⟩ hL.1 rfl (Nat.le_of_ble_eq_true rfl) dX5_alloc_35 (fun v35 μ35 z35 H locs hp X => ?_)
          obtain ⟨hv_, hz_, hc2, hf2⟩ := hp
          rw [rref_s hw1] at hv_
          have hv_ : v35 = some (.ref (ρ (aRg (rWith (rHas (up A 0 0 0) (fc + 2)) 1).toNat))) := hv_
          have hz_ := hz_.symm
          subst hv_
          subst hz_
          have hc := hc2
          have hfr := hf2
          have hK1 := has_KK (n := fc + 2) hK
          obtain ⟨h1, h2, h3, h4, h5, h6, h7, h8, hcy0, hcy1⟩ := id hc
          obtain ⟨⟨f00, f01, f02⟩, ⟨f10, f11, f12⟩, ⟨f20, f21, f22⟩, ⟨f30, f40, f50⟩, frr, foo⟩ := id h1
          obtain ⟨g1, g3, g4, g5, g6, g7⟩ := id h2
          refine c_astorer hx hb hL dX5_alloc_38 (Nat.le_of_ble_eq_true rfl) (fun ls hL => ?_)
          refine m_aload hx hb hL dX5_alloc_40 rfl ?_
          refine lv_ifnonnull (tgt := 63) hx hb dX5_alloc_42 (by decide) ?_
          refine m_aload hx hb hL dX5_alloc_63 rfl ?_
          refine lv_ifnonnull (tgt := 70) hx hb dX5_alloc_65 (by decide) ?_
          have hv1 := (has_v hK (by omega)).mpr hw1
          have hact := has_act hK (by omega) hv1
          have hBe : rAl1 A fc = (rHas (up A 0 0 0) (fc + 2)) := by unfold rAl1; rw [if_pos hv1]
          have hAV : rAlV A fc = 1 := by unfold rAlV; rw [if_pos hv1]
          have hKB := hK1
          have e6 : (rHas (up A 0 0 0) (fc + 2)) 6 0 = A 6 0 := by rw [has_k 6 0 (by decide)]; rfl
          obtain ⟨B, hBE⟩ : ∃ B, B = (rHas (up A 0 0 0) (fc + 2)) := ⟨_, rfl⟩
          rw [← hBE] at hc hKB hact hBe e6 hL
          obtain ⟨hw, hu⟩ := hact
          obtain ⟨h1, h2, h3, h4, h5, h6, h7, h8, hcy0, hcy1⟩ := id hc
          obtain ⟨⟨f00, f01, f02⟩, ⟨f10, f11, f12⟩, ⟨f20, f21, f22⟩, ⟨f30, f40, f50⟩, frr, foo⟩ := id h1
          obtain ⟨g1, g3, g4, g5, g6, g7⟩ := id h2
          have hN : nn B = nn A := by unfold nn; rw [e6]
          have hwb := rWith_some hw
          have b4w := hKB.1.1.b4 (rWith B 1).toNat
          have hrn : (rWith B 1).toNat < RN B := by unfold RN; omega
          obtain ⟨r1, r2, r3, r4, r5⟩ := frr _ hrn
          have ru := (h6 _ hrn).2.1
          have hNSB : NS B μ35 := hNS.fr hfr.1 e6
          have hns := hNSB (nn B) (Nat.le_refl _)
          have hok : rAllocOk r fc := ⟨hregr, by omega, by omega⟩
          refine m_new (a := aOb (nn B)) hC X NX5_47 hns.1 (by rw [hN]; exact hz1) (by decide) (by decide) dX5_alloc_70 (fun H X => ?_)
          refine lv_dup hx hb dX5_alloc_73 rfl ?_
          refine m_aload hx hb hL dX5_alloc_74 rfl ?_
          refine m_iload_n hx hb hL dX5_alloc_76 rfl ?_
          refine m_iload_n hx hb hL dX5_alloc_77 rfl ?_
          refine m_callI (b := aOb (nn B)) hC X (k_X1_init (o := aOb (nn B)) (f := aFd (nn B)) (r := aRg (rWith B 1).toNat) (by rw [sh_N, if_pos rfl]) (by rw [sh_N, if_neg (fun q => aOb_ne_aFd _ _ q.symm)]; exact hns.2) (by rw [hN]; exact hz2) (by rw [sh_N, if_neg (aRg_ne_aOb _ _)]; exact r2) (by omega)) VX5_49 rfl ⟨by decide, by decide⟩ ⟨by decide, by decide⟩ hL.1 rfl (Nat.le_of_ble_eq_true rfl) dX5_alloc_78 (fun v78 μ78 z78 H locs hp X => ?_)
          obtain ⟨rfl, hm_, hz_⟩ := hp
          have hz_ := hz_.symm
          subst hz_
          have s78 : ∀ a, sh μ78 a = if a = aFd (nn B) then some (.inr (3, fc.toNat)) else if a = aOb (nn B) then some (.inl 1) else sh μ35 a := fun a => by rw [hm_]; rfl
          have hne1 : aRg (rWith B 1).toNat ≠ aOb (nn B) := aRg_ne_aOb _ _
          have hne2 : aRg (rWith B 1).toNat ≠ aFd (nn B) := aRg_ne_aFd _ _
          have u78 : mi μ78 (aRg (rWith B 1).toNat) 3 = iv (B 4 (rWith B 1).toNat) := by rw [hm_, mi_ne (fun q => hne1 q.1), mi_ne (fun q => hne1 q.1), mi_Q, mi_N, if_neg hne2, mi_ne (fun q => hne1 q.1), mi_Q, mi_N, if_neg hne1]; exact ru
          have q78 : mq μ78 (aRg (rWith B 1).toNat) 1 = some (aSt (rWith B 1).toNat) := by rw [hm_, mq_I, mq_I, mq_ne (fun q => hne1 q.1), mq_N, if_neg hne2, mq_I, mq_ne (fun q => hne1 q.1), mq_N, if_neg hne1]; exact r3
          refine c_astorer hx hb hL dX5_alloc_81 (Nat.le_of_ble_eq_true rfl) (fun ls hL => ?_)
          refine m_aload hx hb hL dX5_alloc_83 rfl ?_
          refine m_aload hx hb hL dX5_alloc_85 rfl ?_
          refine c_callV hC X (k_X3_append (r := aRg (rWith B 1).toNat) (o := aOb (nn B)) (q := aSt (rWith B 1).toNat) (f := aFd (nn B)) (n := fc.toNat) (u := B 4 (rWith B 1).toNat) (by rw [s78, if_neg hne2, if_neg hne1]; exact r2) (by rw [s78, if_neg (aOb_ne_aFd _ _), if_pos rfl]) (by rw [s78, if_neg (aSt_ne_aFd _ _), if_neg (fun q => aOb_ne_aSt _ _ q.symm)]; exact r4) (by rw [hm_, mq_I, mq_I, mq_eq]) (by rw [s78, if_pos rfl]) u78 q78 (by omega)) VX5_52 (by rw [s78, if_neg hne2, if_neg hne1]; exact r2) rfl ⟨by decide, by decide⟩ ⟨by decide, by decide⟩ hL.1 rfl (Nat.le_of_ble_eq_true rfl) dX5_alloc_87 (fun v87 μ87 z87 H locs hp X => ?_)
          obtain ⟨rfl, hm2, hz_⟩ := hp
          have hz_ := hz_.symm
          subst hz_
          have e87 : μ87 = alM μ35 (nn B) (rWith B 1).toNat (B 4 (rWith B 1).toNat) fc t 0 0 := by rw [hm2, hm_]; unfold alM; dsimp only; rw [if_pos rfl]
          clear hm2 u78 q78 s78
          subst e87
          have nf : aOb (nn B) ≠ aFd (nn B) := aOb_ne_aFd _ _
          refine m_aload_n hx hb hL dX5_alloc_90 rfl ?_
          refine m_getr (b := 1) hC X FX5_18 (by rw [al_sh, if_neg (fun q => aFd_f (by decide) q.symm), if_neg (fun q => aOb_f (by decide) q.symm)]; exact f00) rfl (by rw [al_mq, if_neg (fun q => aSt_f (by decide) q.1.symm), if_neg (fun q => aOb_f (by decide) q.1.symm), if_neg (fun q => aOb_f (by decide) q.1.symm), if_neg (fun q => aFd_f (by decide) q.symm), if_neg (fun q => aOb_f (by decide) q.symm)]; exact f01) dX5_alloc_91 ?_
          refine m_aload hx hb hL dX5_alloc_94 rfl ?_
          refine c_callV hC X (k_X0_welcome (a := 1) (o := aOb (nn B)) (ph := B 18 0) (cy := cy) (by rw [al_sh, if_neg (fun q => aFd_f (by decide) q.symm), if_neg (fun q => aOb_f (by decide) q.symm)]; exact f10) (by rw [al_sh, if_neg nf, if_pos rfl]) (by rw [al_mi _ _ (fun q => aOb_f (by decide) q.symm) (fun q => aFd_f (by decide) q.symm), if_neg (fun q => aRg_f (by decide) q.1.symm)]; exact g3) (by rw [al_mi _ _ (fun q => aOb_f (by decide) q.symm) (fun q => aFd_f (by decide) q.symm), if_neg (fun q => aRg_f (by decide) q.1.symm)]; exact g4) (hKB.1.1.b18 0)) VX5_58 (by rw [al_sh, if_neg (fun q => aFd_f (by decide) q.symm), if_neg (fun q => aOb_f (by decide) q.symm)]; exact f10) rfl ⟨by decide, by decide⟩ ⟨by decide, by decide⟩ hL.1 rfl (Nat.le_of_ble_eq_true rfl) dX5_alloc_96 (fun v96 μ96 z96 H locs hp X => ?_)
          obtain ⟨rfl, hm3, hz_⟩ := hp
          have hz_ := hz_.symm
          subst hz_
          have e96 : μ96 = alM μ35 (nn B) (rWith B 1).toNat (B 4 (rWith B 1).toNat) fc t (B 18 0) cy := by rw [hm3]; unfold alM; dsimp only; rw [if_pos rfl]
          clear hm3
          subst e96
          refine m_aload_n hx hb hL dX5_alloc_99 rfl ?_
          refine m_getr (b := 2) hC X FX5_26 (by rw [al_sh, if_neg (fun q => aFd_f (by decide) q.symm), if_neg (fun q => aOb_f (by decide) q.symm)]; exact f00) rfl (by rw [al_mq, if_neg (fun q => aSt_f (by decide) q.1.symm), if_neg (fun q => aOb_f (by decide) q.1.symm), if_neg (fun q => aOb_f (by decide) q.1.symm), if_neg (fun q => aFd_f (by decide) q.symm), if_neg (fun q => aOb_f (by decide) q.symm)]; exact f02) dX5_alloc_100 ?_
          refine m_getr (b := 4) hC X FX5_61 (by rw [al_sh, if_neg (fun q => aFd_f (by decide) q.symm), if_neg (fun q => aOb_f (by decide) q.symm)]; exact f20) rfl (by rw [al_mq, if_neg (fun q => aSt_f (by decide) q.1.symm), if_neg (fun q => aOb_f (by decide) q.1.symm), if_neg (fun q => aOb_f (by decide) q.1.symm), if_neg (fun q => aFd_f (by decide) q.symm), if_neg (fun q => aOb_f (by decide) q.symm)]; exact f21) dX5_alloc_103 ?_
          refine m_iload_n hx hb hL dX5_alloc_106 rfl ?_
          refine m_aload hx hb hL dX5_alloc_107 rfl ?_
          refine c_aastr (b := aOb (nn B)) (x := r) hC X (by rw [al_sh, if_neg (fun q => aFd_f (by decide) q.symm), if_neg (fun q => aOb_f (by decide) q.symm)]; exact f40) (by omega) (by omega) (by omega) (by rw [al_sh, if_neg nf, if_pos rfl]) dX5_alloc_109 (fun H locs X => ?_)
          refine m_aload hx hb hL dX5_alloc_110 rfl ?_
          have f4 : aOb (nn B) ≠ 4 := aOb_f (by decide)
          refine c_callS hC X (k_X5_placeOf_s (o := aOb (nn B)) (r := aRg (rWith B 1).toNat) (n := (((rWith B 1).toNat : Nat) : Int)) (f := B 4 (rWith B 1).toNat) (by rw [sh_Q, al_sh, if_neg nf, if_pos rfl]) (by rw [sh_Q, al_sh, if_neg hne2, if_neg hne1]; exact r2) (by rw [mq_ne (fun q => f4 q.1), al_mq, if_neg (fun q => aOb_ne_aSt _ _ q.1), if_pos ⟨rfl, rfl⟩]) (by rw [mi_Q, al_mi _ _ hne1 hne2, if_neg (by omega)]; exact r5) (by rw [mi_Q, al_mo, if_neg (by omega), if_pos rfl])) VX5_65 rfl ⟨by decide, by decide⟩ ⟨by decide, by decide⟩ hL.1 rfl (Nat.le_of_ble_eq_true rfl) dX5_alloc_112 (fun v112 μ112 z112 H locs hp X => ?_)
          obtain ⟨rfl, hm_, hz_⟩ := hp
          have hm_ := hm_.symm
          have hz_ := hz_.symm
          subst hm_
          subst hz_
          obtain ⟨-, -, -, -, n7, n8, -⟩ := put_e (r := r) (c := fc) (t := t) hKB.1.1 (by omega)
          have b6 := hKB.1.1.b6 0
          have hA1 : rAlloc A r fc t = rPut B r fc t := by unfold rAlloc; rw [if_pos hok, if_pos hAV, hBe]
          have hA2 : rAllocV A r fc t = 128 * (((rWith B 1).toNat : Nat) : Int) + B 4 (rWith B 1).toNat := by
            unfold rAllocV
            rw [if_pos hok, if_pos hAV, hBe]
            unfold rPlace
            rw [if_neg (by omega), show (B 6 0).toNat = nn B from rfl, n7, n8]
            omega
          have hKF := put_KK (r := r) (c := fc) (t := t) hKB hregr (by omega) ht0 (by omega) hw hu
          have hCF := al_CR (r := r) (c := fc) (t := t) hKB hc hregr (by omega) hw hu
          have hNF := al_NS (r := r) (c := fc) (t := t) (w := (rWith B 1).toNat) (u := B 4 (rWith B 1).toNat) (ph := B 18 0) (cy := cy) hKB.1.1 (by omega) hNSB
          rw [← hA1] at hKF hCF hNF
          exact x_ret (Nat.le_of_ble_eq_true rfl) (Nat.le_of_ble_eq_true rfl) (m_iret hC X hr hlk ⟨hok, by rw [hA2], by omega, ⟨_, _, cy, hKF, hCF, by omega⟩, (al_w _ hfr.w).Q (cad_f (by decide)) _ _, hNF⟩ dX5_alloc_115)
      · exact x_throw (is := 33) hC hl hxt hlk hxW hxZ X (by decide +kernel) x_wA.1 x_wA.2.1 x_wA.2.2.1 (by decide) hxW.1.2.2.1 x_wA.2.2.2.1 x_wA.2.2.2.2 hL.1 dX5_alloc_14 dX5_alloc_17 dX5_alloc_18 dX5_alloc_20 dX5_alloc_23 (by decide) (Nat.le_of_ble_eq_true rfl) (by decide) (by decide) (by decide) (fun z9 hz9 => ⟨Or.inr ⟨rfl, hregr, by omega⟩, rfl, hz9⟩) (by decide) (by decide)

