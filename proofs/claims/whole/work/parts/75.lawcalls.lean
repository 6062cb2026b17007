/-! the law, call by call (printed by wip/tools/cls12.py) -/
set_option maxHeartbeats 4000000 in
theorem l_alloc {G : mG} {p : Program} {l : Launch} {e : Env} {c : Code} {s : State} {m : MethodId} {args : Array Value} {below : List Frame} {meth : Method} {Q : State → Prop} {b L : Nat} {xs : Nat → Int32} {ρ : Nat → Nat} {n : Nat} {i : Int} {μ : mM} {z : Nat} {H : Heap} {locs : List Loc} {ls : Array Slot} (C : LC G p l c s m args b L xs) (hn : n < 512) (hi : 0 ≤ i ∧ i + 4 ≤ (L : Int)) (V : LV G s ρ n μ z H locs) (hL : lq ls [some (.ref b), some (.ref (ρ 0)), some (.ref (ρ 6)), some (.ref (ρ 7)), some (.int (iv i)), none, none])
    (K : ∀ (ρ : Nat → Nat) (μ : mM) (z : Nat) (H : Heap) (locs : List Loc) (ls : Array Slot), LV G s ρ (n + 1) μ z H locs → lq ls [some (.ref b), some (.ref (ρ 0)), some (.ref (ρ 6)), some (.ref (ρ 7)), some (.int (iv i)), none, none] → W p l e (rm 12 434 601024 7293000) s m args below meth c H locs (52 + 4 * (n + 1)) (19628 + 33 * (n + 1)) Q (F0 m 837 ls [])) : W p l e (rm 12 434 601024 7293000) s m args below meth c H locs (52 + 4 * n) (19628 + 33 * n) Q (F0 m 124 ls []) := by
  obtain ⟨hl, hC, hxW, hxZ, hX, hbl, hL0⟩ := C
  obtain ⟨A, P, Gs, cy, X, hR, hc, hK, hNS, h7, h6, hcy⟩ := V
  have hx := hC.1
  have hb := hC.2.1
  have hbA : ¬ s.heap.size ≤ b := by omega
  have f00 := hc.1.1.1
  have hs0 := hNS (nn A) (Nat.le_refl _)
  obtain ⟨σ, hσ⟩ : ∃ σ : Nat → Nat, σ = fun a => if a = aOb (nn A) then z else if a = aFd (nn A) then z + 1 else ρ a := ⟨_, rfl⟩
  have s1 : σ (aOb (nn A)) = z := by rw [hσ]; exact if_pos rfl
  have s2 : σ (aFd (nn A)) = z + 1 := by rw [hσ]; exact (if_neg (fun q => aOb_ne_aFd _ _ q.symm)).trans (if_pos rfl)
  have so : ∀ a, a ≠ aOb (nn A) → a ≠ aFd (nn A) → σ a = ρ a := fun a h1 h2 => by rw [hσ]; exact (if_neg h1).trans (if_neg h2)
  have X := mX.cong (ρ' := σ) (fun a x ha => so a (fun q => by rw [q, hs0.1] at ha; cases ha) (fun q => by rw [q, hs0.2] at ha; cases ha)) X
  have n0 : ∀ k, k < 8 → σ k = ρ k := fun k hk => so k (fun q => by unfold aOb at q; omega) (fun q => by unfold aFd at q; omega)
  rw [← n0 0 (by decide), ← n0 6 (by decide), ← n0 7 (by decide)] at hL
  refine m_aload_n hx hb hL dL_law_124 rfl ?_
  refine m_aload_n hx hb hL dL_law_125 rfl ?_
  refine m_iload hx hb hL dL_law_126 rfl ?_
  refine lv_iconst (v := iv 1) hx hb dL_law_128 rfl ?_
  refine m_iadd hx hb dL_law_129 ?_
  refine l_sld hx hb hX hbl hbA X.2.1 hL0 (i := (i + 1)) (by omega) (by omega) dL_law_130 ?_
  refine m_aload_n hx hb hL dL_law_131 rfl ?_
  refine m_iload hx hb hL dL_law_132 rfl ?_
  refine lv_iconst (v := iv 2) hx hb dL_law_134 rfl ?_
  refine m_iadd hx hb dL_law_135 ?_
  refine l_sld hx hb hX hbl hbA X.2.1 hL0 (i := (i + 2)) (by omega) (by omega) dL_law_136 ?_
  refine m_aload_n hx hb hL dL_law_137 rfl ?_
  refine m_iload hx hb hL dL_law_138 rfl ?_
  refine lv_iconst (v := iv 3) hx hb dL_law_140 rfl ?_
  refine m_iadd hx hb dL_law_141 ?_
  refine l_sld hx hb hX hbl hbA X.2.1 hL0 (i := (i + 3)) (by omega) (by omega) dL_law_142 ?_
  refine m_aload_n hx hb hL dL_law_143 rfl ?_
  refine x_callH hC hxW hxZ X (k_L_alloc hl hc hK hNS h7 (by omega) (by omega) s1 s2 (sx_rng xs (i + 1)) (sx_rng xs (i + 2)) (sx_rng xs (i + 3))) HL_62 rfl ⟨by decide, by decide⟩ ⟨by show 52 + 4 * n + _ ≤ 601024; omega, by show 19628 + 33 * n + _ ≤ 7293000; omega⟩ hL.1 rfl (Nat.le_of_ble_eq_true rfl) dL_law_144 (fun v1 μ1 z1 H locs hp X => ?_)
  obtain ⟨rfl, -, ⟨P2, G2, cy2, hK2, hc2, hcy2⟩, hw, hNS2, ho⟩ := hp
  have hR := RR_w hR hw
  have s72 : sh μ1 7 = some (.inr (2, 1)) := by rw [hw.1 7 n7]; exact h7
  refine m_istore hx hb hL dL_law_147 (Nat.le_of_ble_eq_true rfl) (fun ls hL => ?_)
  refine m_aload_n hx hb hL dL_law_149 rfl ?_
  refine m_aload_n hx hb hL dL_law_150 rfl ?_
  refine m_iload hx hb hL dL_law_151 rfl ?_
  refine lv_iconst (v := iv 1) hx hb dL_law_153 rfl ?_
  refine m_iadd hx hb dL_law_154 ?_
  refine l_sld hx hb hX hbl hbA X.2.1 hL0 (i := (i + 1)) (by omega) (by omega) dL_law_155 ?_
  refine m_aload_n hx hb hL dL_law_156 rfl ?_
  refine m_iload hx hb hL dL_law_157 rfl ?_
  refine lv_iconst (v := iv 2) hx hb dL_law_159 rfl ?_
  refine m_iadd hx hb dL_law_160 ?_
  refine l_sld hx hb hX hbl hbA X.2.1 hL0 (i := (i + 2)) (by omega) (by omega) dL_law_161 ?_
  refine m_aload_n hx hb hL dL_law_162 rfl ?_
  refine m_iload hx hb hL dL_law_163 rfl ?_
  refine lv_iconst (v := iv 3) hx hb dL_law_165 rfl ?_
  refine m_iadd hx hb dL_law_166 ?_
  refine l_sld hx hb hX hbl hbA X.2.1 hL0 (i := (i + 3)) (by omega) (by omega) dL_law_167 ?_
  refine m_callV hC X (k_X6_alloc hR hK.1.1 hK (by omega) (sx_rg xs (i + 1)) (sx_rg xs (i + 2)) (sx_rg xs (i + 3))) VL_65 hR.1 rfl ⟨by decide, by decide⟩ ⟨by show _ ≤ 601024; omega, by show _ ≤ 7293000; omega⟩ hL.1 rfl (Nat.le_of_ble_eq_true rfl) dL_law_168 (fun v2 μ2 z2 H locs hp X => ?_)
  obtain ⟨rfl, hz_, hR, hf⟩ := hp
  have hz_ := hz_.symm
  subst hz_
  have hc2 := rfr_CR hf hc2
  have hNS2 := NS.fr hNS2 hf.1 rfl
  have s72 := (hf.1 7).trans s72
  have ho := fun q => (hf.2.2.1 7 0).trans (ho q)
  refine m_istore hx hb hL dL_law_171 (Nat.le_of_ble_eq_true rfl) (fun ls hL => ?_)
  refine m_aload_n hx hb hL dL_law_173 rfl ?_
  refine m_callV hC X (k_X6_thrown hR hK2.1.1) VL_66 hR.1 rfl ⟨by decide, by decide⟩ ⟨by show _ ≤ 601024; omega, by show _ ≤ 7293000; omega⟩ hL.1 rfl (Nat.le_of_ble_eq_true rfl) dL_law_174 (fun v3 μ3 z3 H locs hp X => ?_)
  obtain ⟨rfl, hz_, hR, hf⟩ := hp
  have hz_ := hz_.symm
  subst hz_
  have hc2 := rfr_CR hf hc2
  have hNS2 := NS.fr hNS2 hf.1 rfl
  have s72 := (hf.1 7).trans s72
  have ho := fun q => (hf.2.2.1 7 0).trans (ho q)
  refine m_iload hx hb hL dL_law_177 rfl ?_
  refine lv_icmp_eq (tgt := 184) hx hb dL_law_179 (by decide) (fun _ => ?_) (fun q => absurd rfl q)
  refine m_iload hx hb hL dL_law_184 rfl ?_
  have b0 := hK2.1.1.b0 0
  refine m_if_ne (tgt := 201) hx hb dL_law_186 (by decide) (by omega) (fun _ => ?_) (fun c0 => ?_)
  · refine lv_goto (tgt := 837) hx hb dL_law_201 (by decide) ?_
    refine W_widen (k := 52 + 4 * (n + 1)) (n := 19628 + 33 * (n + 1)) (by omega) (by omega) ?_
    have t6 : (rAlloc A (sx xs (i + 1)) (sx xs (i + 2)) (sx xs (i + 3))) 6 0 ≤ A 6 0 + 1 := al_6 hK
    exact K _ _ _ _ _ ls ⟨(rAlloc A (sx xs (i + 1)) (sx xs (i + 2)) (sx xs (i + 3))), P2, G2, cy2, X, hR, hc2, hK2, hNS2, s72, by omega, by omega⟩ (lq_none 5 (lq_none 6 hL))
  · have ho := ho c0
    refine m_aload_n hx hb hL dL_law_189 rfl ?_
    refine lv_iconst (v := iv 0) hx hb dL_law_190 rfl ?_
    refine m_lald (n := 1) (i := 0) hC X s72 (by decide +kernel) (by decide) (by decide) ho dL_law_191 ?_
    refine m_iload hx hb hL dL_law_192 rfl ?_
    refine lv_i2l (v := (iv (rAllocV A (sx xs (i + 1)) (sx xs (i + 2)) (sx xs (i + 3)))).toInt64) hx hb dL_law_194 rfl ?_
    refine l_lcmp hx hb dL_law_195 ?_
    refine m_if_eq (x := 0) (tgt := 201) hx hb dL_law_196 (by decide) (by omega) (fun _ => ?_) (fun q => absurd rfl q)
    refine lv_goto (tgt := 837) hx hb dL_law_201 (by decide) ?_
    refine W_widen (k := 52 + 4 * (n + 1)) (n := 19628 + 33 * (n + 1)) (by omega) (by omega) ?_
    have t6 : (rAlloc A (sx xs (i + 1)) (sx xs (i + 2)) (sx xs (i + 3))) 6 0 ≤ A 6 0 + 1 := al_6 hK
    exact K _ _ _ _ _ ls ⟨(rAlloc A (sx xs (i + 1)) (sx xs (i + 2)) (sx xs (i + 3))), P2, G2, cy2, X, hR, hc2, hK2, hNS2, s72, by omega, by omega⟩ (lq_none 5 (lq_none 6 hL))
set_option maxHeartbeats 4000000 in
theorem l_move {G : mG} {p : Program} {l : Launch} {e : Env} {c : Code} {s : State} {m : MethodId} {args : Array Value} {below : List Frame} {meth : Method} {Q : State → Prop} {b L : Nat} {xs : Nat → Int32} {ρ : Nat → Nat} {n : Nat} {i : Int} {μ : mM} {z : Nat} {H : Heap} {locs : List Loc} {ls : Array Slot} (C : LC G p l c s m args b L xs) (hn : n < 512) (hi : 0 ≤ i ∧ i + 4 ≤ (L : Int)) (V : LV G s ρ n μ z H locs) (hL : lq ls [some (.ref b), some (.ref (ρ 0)), some (.ref (ρ 6)), some (.ref (ρ 7)), some (.int (iv i)), none, none])
    (K : ∀ (ρ : Nat → Nat) (μ : mM) (z : Nat) (H : Heap) (locs : List Loc) (ls : Array Slot), LV G s ρ (n + 1) μ z H locs → lq ls [some (.ref b), some (.ref (ρ 0)), some (.ref (ρ 6)), some (.ref (ρ 7)), some (.int (iv i)), none, none] → W p l e (rm 12 434 601024 7293000) s m args below meth c H locs (52 + 4 * (n + 1)) (19628 + 33 * (n + 1)) Q (F0 m 837 ls [])) : W p l e (rm 12 434 601024 7293000) s m args below meth c H locs (52 + 4 * n) (19628 + 33 * n) Q (F0 m 204 ls []) := by
  obtain ⟨hl, hC, hxW, hxZ, hX, hbl, hL0⟩ := C
  obtain ⟨A, P, Gs, cy, X, hR, hc, hK, hNS, h7, h6, hcy⟩ := V
  have hx := hC.1
  have hb := hC.2.1
  have hbA : ¬ s.heap.size ≤ b := by omega
  have f00 := hc.1.1.1
  refine m_aload_n hx hb hL dL_law_204 rfl ?_
  refine m_aload_n hx hb hL dL_law_205 rfl ?_
  refine m_iload hx hb hL dL_law_206 rfl ?_
  refine lv_iconst (v := iv 1) hx hb dL_law_208 rfl ?_
  refine m_iadd hx hb dL_law_209 ?_
  refine l_sld hx hb hX hbl hbA X.2.1 hL0 (i := (i + 1)) (by omega) (by omega) dL_law_210 ?_
  refine m_aload_n hx hb hL dL_law_211 rfl ?_
  refine m_iload hx hb hL dL_law_212 rfl ?_
  refine lv_iconst (v := iv 2) hx hb dL_law_214 rfl ?_
  refine m_iadd hx hb dL_law_215 ?_
  refine l_sld hx hb hX hbl hbA X.2.1 hL0 (i := (i + 2)) (by omega) (by omega) dL_law_216 ?_
  refine x_callH hC hxW hxZ X (k_L_move hl hc hK hNS (sx_rng xs (i + 1)) (sx_rng xs (i + 2))) HL_70 rfl ⟨by decide, by decide⟩ ⟨by show 52 + 4 * n + _ ≤ 601024; omega, by show 19628 + 33 * n + _ ≤ 7293000; omega⟩ hL.1 rfl (Nat.le_of_ble_eq_true rfl) dL_law_217 (fun v1 μ1 z1 H locs hp X => ?_)
  obtain ⟨rfl, -, ⟨P2, G2, cy2, hK2, hc2, hcy2⟩, hw, hNS2, ho⟩ := hp
  have hR := RR_w hR hw
  have s72 : sh μ1 7 = some (.inr (2, 1)) := by rw [hw.1 7 n7]; exact h7
  refine m_istore hx hb hL dL_law_220 (Nat.le_of_ble_eq_true rfl) (fun ls hL => ?_)
  refine m_aload_n hx hb hL dL_law_222 rfl ?_
  refine m_aload_n hx hb hL dL_law_223 rfl ?_
  refine m_iload hx hb hL dL_law_224 rfl ?_
  refine lv_iconst (v := iv 1) hx hb dL_law_226 rfl ?_
  refine m_iadd hx hb dL_law_227 ?_
  refine l_sld hx hb hX hbl hbA X.2.1 hL0 (i := (i + 1)) (by omega) (by omega) dL_law_228 ?_
  refine m_aload_n hx hb hL dL_law_229 rfl ?_
  refine m_iload hx hb hL dL_law_230 rfl ?_
  refine lv_iconst (v := iv 2) hx hb dL_law_232 rfl ?_
  refine m_iadd hx hb dL_law_233 ?_
  refine l_sld hx hb hX hbl hbA X.2.1 hL0 (i := (i + 2)) (by omega) (by omega) dL_law_234 ?_
  refine m_callV hC X (k_X6_move hR hK.1.1 (sx_rg xs (i + 1)) (sx_rg xs (i + 2))) VL_73 hR.1 rfl ⟨by decide, by decide⟩ ⟨by show _ ≤ 601024; omega, by show _ ≤ 7293000; omega⟩ hL.1 rfl (Nat.le_of_ble_eq_true rfl) dL_law_235 (fun v2 μ2 z2 H locs hp X => ?_)
  obtain ⟨rfl, hz_, hR, hf⟩ := hp
  have hz_ := hz_.symm
  subst hz_
  have hc2 := rfr_CR hf hc2
  have hNS2 := NS.fr hNS2 hf.1 rfl
  have s72 := (hf.1 7).trans s72
  refine m_aload_n hx hb hL dL_law_238 rfl ?_
  refine m_callV hC X (k_X6_thrown hR hK2.1.1) VL_66 hR.1 rfl ⟨by decide, by decide⟩ ⟨by show _ ≤ 601024; omega, by show _ ≤ 7293000; omega⟩ hL.1 rfl (Nat.le_of_ble_eq_true rfl) dL_law_239 (fun v3 μ3 z3 H locs hp X => ?_)
  obtain ⟨rfl, hz_, hR, hf⟩ := hp
  have hz_ := hz_.symm
  subst hz_
  have hc2 := rfr_CR hf hc2
  have hNS2 := NS.fr hNS2 hf.1 rfl
  have s72 := (hf.1 7).trans s72
  refine m_iload hx hb hL dL_law_242 rfl ?_
  refine lv_icmp_eq (tgt := 249) hx hb dL_law_244 (by decide) (fun _ => ?_) (fun q => absurd rfl q)
  refine lv_goto (tgt := 837) hx hb dL_law_249 (by decide) ?_
  refine W_widen (k := 52 + 4 * (n + 1)) (n := 19628 + 33 * (n + 1)) (by omega) (by omega) ?_
  have t6 : (rMove A (sx xs (i + 1)) (sx xs (i + 2))) 6 0 ≤ A 6 0 + 1 := by rw [mv_6]; omega
  exact K _ _ _ _ _ ls ⟨(rMove A (sx xs (i + 1)) (sx xs (i + 2))), P2, G2, cy2, X, hR, hc2, hK2, hNS2, s72, by omega, by omega⟩ (lq_none 5 (lq_none 6 hL))
set_option maxHeartbeats 4000000 in
theorem l_drop {G : mG} {p : Program} {l : Launch} {e : Env} {c : Code} {s : State} {m : MethodId} {args : Array Value} {below : List Frame} {meth : Method} {Q : State → Prop} {b L : Nat} {xs : Nat → Int32} {ρ : Nat → Nat} {n : Nat} {i : Int} {μ : mM} {z : Nat} {H : Heap} {locs : List Loc} {ls : Array Slot} (C : LC G p l c s m args b L xs) (hn : n < 512) (hi : 0 ≤ i ∧ i + 4 ≤ (L : Int)) (V : LV G s ρ n μ z H locs) (hL : lq ls [some (.ref b), some (.ref (ρ 0)), some (.ref (ρ 6)), some (.ref (ρ 7)), some (.int (iv i)), none, none])
    (K : ∀ (ρ : Nat → Nat) (μ : mM) (z : Nat) (H : Heap) (locs : List Loc) (ls : Array Slot), LV G s ρ (n + 1) μ z H locs → lq ls [some (.ref b), some (.ref (ρ 0)), some (.ref (ρ 6)), some (.ref (ρ 7)), some (.int (iv i)), none, none] → W p l e (rm 12 434 601024 7293000) s m args below meth c H locs (52 + 4 * (n + 1)) (19628 + 33 * (n + 1)) Q (F0 m 837 ls [])) : W p l e (rm 12 434 601024 7293000) s m args below meth c H locs (52 + 4 * n) (19628 + 33 * n) Q (F0 m 252 ls []) := by
  obtain ⟨hl, hC, hxW, hxZ, hX, hbl, hL0⟩ := C
  obtain ⟨A, P, Gs, cy, X, hR, hc, hK, hNS, h7, h6, hcy⟩ := V
  have hx := hC.1
  have hb := hC.2.1
  have hbA : ¬ s.heap.size ≤ b := by omega
  have f00 := hc.1.1.1
  refine m_aload_n hx hb hL dL_law_252 rfl ?_
  refine m_aload_n hx hb hL dL_law_253 rfl ?_
  refine m_iload hx hb hL dL_law_254 rfl ?_
  refine lv_iconst (v := iv 1) hx hb dL_law_256 rfl ?_
  refine m_iadd hx hb dL_law_257 ?_
  refine l_sld hx hb hX hbl hbA X.2.1 hL0 (i := (i + 1)) (by omega) (by omega) dL_law_258 ?_
  refine m_aload_n hx hb hL dL_law_259 rfl ?_
  refine x_callH hC hxW hxZ X (k_L_drop hl hc hK hNS h7 (sx_rng xs (i + 1))) HL_74 rfl ⟨by decide, by decide⟩ ⟨by show 52 + 4 * n + _ ≤ 601024; omega, by show 19628 + 33 * n + _ ≤ 7293000; omega⟩ hL.1 rfl (Nat.le_of_ble_eq_true rfl) dL_law_260 (fun v1 μ1 z1 H locs hp X => ?_)
  obtain ⟨rfl, -, ⟨P2, G2, cy2, hK2, hc2, hcy2⟩, hw, hNS2, ho⟩ := hp
  have hR := RR_w hR hw
  have s72 : sh μ1 7 = some (.inr (2, 1)) := by rw [hw.1 7 n7]; exact h7
  refine m_istore hx hb hL dL_law_263 (Nat.le_of_ble_eq_true rfl) (fun ls hL => ?_)
  refine m_aload_n hx hb hL dL_law_265 rfl ?_
  refine m_aload_n hx hb hL dL_law_266 rfl ?_
  refine m_iload hx hb hL dL_law_267 rfl ?_
  refine lv_iconst (v := iv 1) hx hb dL_law_269 rfl ?_
  refine m_iadd hx hb dL_law_270 ?_
  refine l_sld hx hb hX hbl hbA X.2.1 hL0 (i := (i + 1)) (by omega) (by omega) dL_law_271 ?_
  refine m_callV hC X (k_X6_drop hR hK.1.1 (sx_rg xs (i + 1))) VL_77 hR.1 rfl ⟨by decide, by decide⟩ ⟨by show _ ≤ 601024; omega, by show _ ≤ 7293000; omega⟩ hL.1 rfl (Nat.le_of_ble_eq_true rfl) dL_law_272 (fun v2 μ2 z2 H locs hp X => ?_)
  obtain ⟨rfl, hz_, hR, hf⟩ := hp
  have hz_ := hz_.symm
  subst hz_
  have hc2 := rfr_CR hf hc2
  have hNS2 := NS.fr hNS2 hf.1 rfl
  have s72 := (hf.1 7).trans s72
  have ho := fun q => (hf.2.2.1 7 0).trans (ho q)
  refine m_istore hx hb hL dL_law_275 (Nat.le_of_ble_eq_true rfl) (fun ls hL => ?_)
  refine m_aload_n hx hb hL dL_law_277 rfl ?_
  refine m_callV hC X (k_X6_thrown hR hK2.1.1) VL_66 hR.1 rfl ⟨by decide, by decide⟩ ⟨by show _ ≤ 601024; omega, by show _ ≤ 7293000; omega⟩ hL.1 rfl (Nat.le_of_ble_eq_true rfl) dL_law_278 (fun v3 μ3 z3 H locs hp X => ?_)
  obtain ⟨rfl, hz_, hR, hf⟩ := hp
  have hz_ := hz_.symm
  subst hz_
  have hc2 := rfr_CR hf hc2
  have hNS2 := NS.fr hNS2 hf.1 rfl
  have s72 := (hf.1 7).trans s72
  have ho := fun q => (hf.2.2.1 7 0).trans (ho q)
  refine m_iload hx hb hL dL_law_281 rfl ?_
  refine lv_icmp_eq (tgt := 288) hx hb dL_law_283 (by decide) (fun _ => ?_) (fun q => absurd rfl q)
  refine m_iload hx hb hL dL_law_288 rfl ?_
  have b0 := hK2.1.1.b0 0
  refine m_if_ne (tgt := 312) hx hb dL_law_290 (by decide) (by omega) (fun _ => ?_) (fun c0 => ?_)
  · refine lv_goto (tgt := 837) hx hb dL_law_312 (by decide) ?_
    refine W_widen (k := 52 + 4 * (n + 1)) (n := 19628 + 33 * (n + 1)) (by omega) (by omega) ?_
    have t6 : (rDrop A (sx xs (i + 1))) 6 0 ≤ A 6 0 + 1 := by rw [dr_6]; omega
    exact K _ _ _ _ _ ls ⟨(rDrop A (sx xs (i + 1))), P2, G2, cy2, X, hR, hc2, hK2, hNS2, s72, by omega, by omega⟩ (lq_none 5 (lq_none 6 hL))
  · have ho := ho c0
    refine m_aload_n hx hb hL dL_law_293 rfl ?_
    refine lv_iconst (v := iv 0) hx hb dL_law_294 rfl ?_
    refine m_lald (n := 1) (i := 0) hC X s72 (by decide +kernel) (by decide) (by decide) ho dL_law_295 ?_
    refine m_iload hx hb hL dL_law_296 rfl ?_
    have hv01 : rDropV A (sx xs (i + 1)) = 0 ∨ rDropV A (sx xs (i + 1)) = 1 := by unfold rDropV; split; exact bZ_or _; exact Or.inl rfl
    refine m_if_eq (x := rDropV A (sx xs (i + 1))) (tgt := 305) hx hb dL_law_298 (by decide) (by omega) (fun cv => ?_) (fun cv => ?_)
    · refine lv_lconst (v := (iv (rDropV A (sx xs (i + 1)))).toInt64) hx hb dL_law_305 (by rw [cv]; decide +kernel) ?_
      refine l_lcmp hx hb dL_law_306 ?_
      refine m_if_eq (x := 0) (tgt := 312) hx hb dL_law_307 (by decide) (by omega) (fun _ => ?_) (fun q => absurd rfl q)
      refine lv_goto (tgt := 837) hx hb dL_law_312 (by decide) ?_
      refine W_widen (k := 52 + 4 * (n + 1)) (n := 19628 + 33 * (n + 1)) (by omega) (by omega) ?_
      have t6 : (rDrop A (sx xs (i + 1))) 6 0 ≤ A 6 0 + 1 := by rw [dr_6]; omega
      exact K _ _ _ _ _ ls ⟨(rDrop A (sx xs (i + 1))), P2, G2, cy2, X, hR, hc2, hK2, hNS2, s72, by omega, by omega⟩ (lq_none 5 (lq_none 6 hL))
    · have cv : rDropV A (sx xs (i + 1)) = 1 := by omega
      refine lv_lconst (v := (iv (rDropV A (sx xs (i + 1)))).toInt64) hx hb dL_law_301 (by rw [cv]; decide +kernel) ?_
      refine lv_goto (tgt := 306) hx hb dL_law_302 (by decide) ?_
      refine l_lcmp hx hb dL_law_306 ?_
      refine m_if_eq (x := 0) (tgt := 312) hx hb dL_law_307 (by decide) (by omega) (fun _ => ?_) (fun q => absurd rfl q)
      refine lv_goto (tgt := 837) hx hb dL_law_312 (by decide) ?_
      refine W_widen (k := 52 + 4 * (n + 1)) (n := 19628 + 33 * (n + 1)) (by omega) (by omega) ?_
      have t6 : (rDrop A (sx xs (i + 1))) 6 0 ≤ A 6 0 + 1 := by rw [dr_6]; omega
      exact K _ _ _ _ _ ls ⟨(rDrop A (sx xs (i + 1))), P2, G2, cy2, X, hR, hc2, hK2, hNS2, s72, by omega, by omega⟩ (lq_none 5 (lq_none 6 hL))
set_option maxHeartbeats 4000000 in
theorem l_read {G : mG} {p : Program} {l : Launch} {e : Env} {c : Code} {s : State} {m : MethodId} {args : Array Value} {below : List Frame} {meth : Method} {Q : State → Prop} {b L : Nat} {xs : Nat → Int32} {ρ : Nat → Nat} {n : Nat} {i : Int} {μ : mM} {z : Nat} {H : Heap} {locs : List Loc} {ls : Array Slot} (C : LC G p l c s m args b L xs) (hn : n < 512) (hi : 0 ≤ i ∧ i + 4 ≤ (L : Int)) (V : LV G s ρ n μ z H locs) (hL : lq ls [some (.ref b), some (.ref (ρ 0)), some (.ref (ρ 6)), some (.ref (ρ 7)), some (.int (iv i)), none, none])
    (K : ∀ (ρ : Nat → Nat) (μ : mM) (z : Nat) (H : Heap) (locs : List Loc) (ls : Array Slot), LV G s ρ (n + 1) μ z H locs → lq ls [some (.ref b), some (.ref (ρ 0)), some (.ref (ρ 6)), some (.ref (ρ 7)), some (.int (iv i)), none, none] → W p l e (rm 12 434 601024 7293000) s m args below meth c H locs (52 + 4 * (n + 1)) (19628 + 33 * (n + 1)) Q (F0 m 837 ls [])) : W p l e (rm 12 434 601024 7293000) s m args below meth c H locs (52 + 4 * n) (19628 + 33 * n) Q (F0 m 315 ls []) := by
  obtain ⟨hl, hC, hxW, hxZ, hX, hbl, hL0⟩ := C
  obtain ⟨A, P, Gs, cy, X, hR, hc, hK, hNS, h7, h6, hcy⟩ := V
  have hx := hC.1
  have hb := hC.2.1
  have hbA : ¬ s.heap.size ≤ b := by omega
  have f00 := hc.1.1.1
  refine m_aload_n hx hb hL dL_law_315 rfl ?_
  refine m_aload_n hx hb hL dL_law_316 rfl ?_
  refine m_iload hx hb hL dL_law_317 rfl ?_
  refine lv_iconst (v := iv 1) hx hb dL_law_319 rfl ?_
  refine m_iadd hx hb dL_law_320 ?_
  refine l_sld hx hb hX hbl hbA X.2.1 hL0 (i := (i + 1)) (by omega) (by omega) dL_law_321 ?_
  refine m_aload_n hx hb hL dL_law_322 rfl ?_
  refine m_iload hx hb hL dL_law_323 rfl ?_
  refine lv_iconst (v := iv 2) hx hb dL_law_325 rfl ?_
  refine m_iadd hx hb dL_law_326 ?_
  refine l_sld hx hb hX hbl hbA X.2.1 hL0 (i := (i + 2)) (by omega) (by omega) dL_law_327 ?_
  refine m_aload_n hx hb hL dL_law_328 rfl ?_
  refine m_iload hx hb hL dL_law_329 rfl ?_
  refine lv_iconst (v := iv 3) hx hb dL_law_331 rfl ?_
  refine m_iadd hx hb dL_law_332 ?_
  refine l_sld hx hb hX hbl hbA X.2.1 hL0 (i := (i + 3)) (by omega) (by omega) dL_law_333 ?_
  refine m_aload_n hx hb hL dL_law_334 rfl ?_
  refine x_callH hC hxW hxZ X (k_L_read hl hc hK hNS h7 (sx_rng xs (i + 1)) (sx_rng xs (i + 2)) (sx_rng xs (i + 3))) HL_78 rfl ⟨by decide, by decide⟩ ⟨by show 52 + 4 * n + _ ≤ 601024; omega, by show 19628 + 33 * n + _ ≤ 7293000; omega⟩ hL.1 rfl (Nat.le_of_ble_eq_true rfl) dL_law_335 (fun v1 μ1 z1 H locs hp X => ?_)
  obtain ⟨rfl, -, ⟨P2, G2, cy2, hK2, hc2, hcy2⟩, hw, hNS2, ho⟩ := hp
  have hR := RR_w hR hw
  have s72 : sh μ1 7 = some (.inr (2, 1)) := by rw [hw.1 7 n7]; exact h7
  refine m_istore hx hb hL dL_law_338 (Nat.le_of_ble_eq_true rfl) (fun ls hL => ?_)
  refine m_aload_n hx hb hL dL_law_340 rfl ?_
  refine m_aload_n hx hb hL dL_law_341 rfl ?_
  refine m_iload hx hb hL dL_law_342 rfl ?_
  refine lv_iconst (v := iv 1) hx hb dL_law_344 rfl ?_
  refine m_iadd hx hb dL_law_345 ?_
  refine l_sld hx hb hX hbl hbA X.2.1 hL0 (i := (i + 1)) (by omega) (by omega) dL_law_346 ?_
  refine m_aload_n hx hb hL dL_law_347 rfl ?_
  refine m_iload hx hb hL dL_law_348 rfl ?_
  refine lv_iconst (v := iv 2) hx hb dL_law_350 rfl ?_
  refine m_iadd hx hb dL_law_351 ?_
  refine l_sld hx hb hX hbl hbA X.2.1 hL0 (i := (i + 2)) (by omega) (by omega) dL_law_352 ?_
  refine m_aload_n hx hb hL dL_law_353 rfl ?_
  refine m_iload hx hb hL dL_law_354 rfl ?_
  refine lv_iconst (v := iv 3) hx hb dL_law_356 rfl ?_
  refine m_iadd hx hb dL_law_357 ?_
  refine l_sld hx hb hX hbl hbA X.2.1 hL0 (i := (i + 3)) (by omega) (by omega) dL_law_358 ?_
  refine m_callV hC X (k_X6_read hR hK.1.1 (sx_rg xs (i + 1)) (sx_rg xs (i + 2)) (sx_rg xs (i + 3))) VL_80 hR.1 rfl ⟨by decide, by decide⟩ ⟨by show _ ≤ 601024; omega, by show _ ≤ 7293000; omega⟩ hL.1 rfl (Nat.le_of_ble_eq_true rfl) dL_law_359 (fun v2 μ2 z2 H locs hp X => ?_)
  obtain ⟨rfl, hz_, hR, hf⟩ := hp
  have hz_ := hz_.symm
  subst hz_
  have hc2 := rfr_CR hf hc2
  have hNS2 := NS.fr hNS2 hf.1 rfl
  have s72 := (hf.1 7).trans s72
  have ho := fun q => (hf.2.2.1 7 0).trans (ho q)
  refine m_istore hx hb hL dL_law_362 (Nat.le_of_ble_eq_true rfl) (fun ls hL => ?_)
  refine m_aload_n hx hb hL dL_law_364 rfl ?_
  refine m_callV hC X (k_X6_thrown hR hK2.1.1) VL_66 hR.1 rfl ⟨by decide, by decide⟩ ⟨by show _ ≤ 601024; omega, by show _ ≤ 7293000; omega⟩ hL.1 rfl (Nat.le_of_ble_eq_true rfl) dL_law_365 (fun v3 μ3 z3 H locs hp X => ?_)
  obtain ⟨rfl, hz_, hR, hf⟩ := hp
  have hz_ := hz_.symm
  subst hz_
  have hc2 := rfr_CR hf hc2
  have hNS2 := NS.fr hNS2 hf.1 rfl
  have s72 := (hf.1 7).trans s72
  have ho := fun q => (hf.2.2.1 7 0).trans (ho q)
  refine m_iload hx hb hL dL_law_368 rfl ?_
  refine lv_icmp_eq (tgt := 375) hx hb dL_law_370 (by decide) (fun _ => ?_) (fun q => absurd rfl q)
  refine m_iload hx hb hL dL_law_375 rfl ?_
  have b0 := hK2.1.1.b0 0
  refine m_if_ne (tgt := 392) hx hb dL_law_377 (by decide) (by omega) (fun _ => ?_) (fun c0 => ?_)
  · refine lv_goto (tgt := 837) hx hb dL_law_392 (by decide) ?_
    refine W_widen (k := 52 + 4 * (n + 1)) (n := 19628 + 33 * (n + 1)) (by omega) (by omega) ?_
    have t6 : (rRead A (sx xs (i + 1)) (sx xs (i + 2)) (sx xs (i + 3))) 6 0 ≤ A 6 0 + 1 := by rw [rd_6]; omega
    exact K _ _ _ _ _ ls ⟨(rRead A (sx xs (i + 1)) (sx xs (i + 2)) (sx xs (i + 3))), P2, G2, cy2, X, hR, hc2, hK2, hNS2, s72, by omega, by omega⟩ (lq_none 5 (lq_none 6 hL))
  · have ho := ho c0
    refine m_aload_n hx hb hL dL_law_380 rfl ?_
    refine lv_iconst (v := iv 0) hx hb dL_law_381 rfl ?_
    refine m_lald (n := 1) (i := 0) hC X s72 (by decide +kernel) (by decide) (by decide) ho dL_law_382 ?_
    refine m_iload hx hb hL dL_law_383 rfl ?_
    refine lv_i2l (v := (iv (rReadV A (sx xs (i + 1)) (sx xs (i + 2)) (sx xs (i + 3)))).toInt64) hx hb dL_law_385 rfl ?_
    refine l_lcmp hx hb dL_law_386 ?_
    refine m_if_eq (x := 0) (tgt := 392) hx hb dL_law_387 (by decide) (by omega) (fun _ => ?_) (fun q => absurd rfl q)
    refine lv_goto (tgt := 837) hx hb dL_law_392 (by decide) ?_
    refine W_widen (k := 52 + 4 * (n + 1)) (n := 19628 + 33 * (n + 1)) (by omega) (by omega) ?_
    have t6 : (rRead A (sx xs (i + 1)) (sx xs (i + 2)) (sx xs (i + 3))) 6 0 ≤ A 6 0 + 1 := by rw [rd_6]; omega
    exact K _ _ _ _ _ ls ⟨(rRead A (sx xs (i + 1)) (sx xs (i + 2)) (sx xs (i + 3))), P2, G2, cy2, X, hR, hc2, hK2, hNS2, s72, by omega, by omega⟩ (lq_none 5 (lq_none 6 hL))
set_option maxHeartbeats 4000000 in
theorem l_write {G : mG} {p : Program} {l : Launch} {e : Env} {c : Code} {s : State} {m : MethodId} {args : Array Value} {below : List Frame} {meth : Method} {Q : State → Prop} {b L : Nat} {xs : Nat → Int32} {ρ : Nat → Nat} {n : Nat} {i : Int} {μ : mM} {z : Nat} {H : Heap} {locs : List Loc} {ls : Array Slot} (C : LC G p l c s m args b L xs) (hn : n < 512) (hi : 0 ≤ i ∧ i + 4 ≤ (L : Int)) (V : LV G s ρ n μ z H locs) (hL : lq ls [some (.ref b), some (.ref (ρ 0)), some (.ref (ρ 6)), some (.ref (ρ 7)), some (.int (iv i)), none, none])
    (K : ∀ (ρ : Nat → Nat) (μ : mM) (z : Nat) (H : Heap) (locs : List Loc) (ls : Array Slot), LV G s ρ (n + 1) μ z H locs → lq ls [some (.ref b), some (.ref (ρ 0)), some (.ref (ρ 6)), some (.ref (ρ 7)), some (.int (iv i)), none, none] → W p l e (rm 12 434 601024 7293000) s m args below meth c H locs (52 + 4 * (n + 1)) (19628 + 33 * (n + 1)) Q (F0 m 837 ls [])) : W p l e (rm 12 434 601024 7293000) s m args below meth c H locs (52 + 4 * n) (19628 + 33 * n) Q (F0 m 395 ls []) := by
  obtain ⟨hl, hC, hxW, hxZ, hX, hbl, hL0⟩ := C
  obtain ⟨A, P, Gs, cy, X, hR, hc, hK, hNS, h7, h6, hcy⟩ := V
  have hx := hC.1
  have hb := hC.2.1
  have hbA : ¬ s.heap.size ≤ b := by omega
  have f00 := hc.1.1.1
  refine m_aload_n hx hb hL dL_law_395 rfl ?_
  refine m_aload_n hx hb hL dL_law_396 rfl ?_
  refine m_iload hx hb hL dL_law_397 rfl ?_
  refine lv_iconst (v := iv 1) hx hb dL_law_399 rfl ?_
  refine m_iadd hx hb dL_law_400 ?_
  refine l_sld hx hb hX hbl hbA X.2.1 hL0 (i := (i + 1)) (by omega) (by omega) dL_law_401 ?_
  refine m_aload_n hx hb hL dL_law_402 rfl ?_
  refine m_iload hx hb hL dL_law_403 rfl ?_
  refine lv_iconst (v := iv 2) hx hb dL_law_405 rfl ?_
  refine m_iadd hx hb dL_law_406 ?_
  refine l_sld hx hb hX hbl hbA X.2.1 hL0 (i := (i + 2)) (by omega) (by omega) dL_law_407 ?_
  refine m_aload_n hx hb hL dL_law_408 rfl ?_
  refine m_iload hx hb hL dL_law_409 rfl ?_
  refine lv_iconst (v := iv 3) hx hb dL_law_411 rfl ?_
  refine m_iadd hx hb dL_law_412 ?_
  refine l_sld hx hb hX hbl hbA X.2.1 hL0 (i := (i + 3)) (by omega) (by omega) dL_law_413 ?_
  refine m_aload_n hx hb hL dL_law_414 rfl ?_
  refine x_callH hC hxW hxZ X (k_L_write hl hc hK hNS h7 (sx_rng xs (i + 1)) (sx_rng xs (i + 2)) (sx_rng xs (i + 3))) HL_81 rfl ⟨by decide, by decide⟩ ⟨by show 52 + 4 * n + _ ≤ 601024; omega, by show 19628 + 33 * n + _ ≤ 7293000; omega⟩ hL.1 rfl (Nat.le_of_ble_eq_true rfl) dL_law_415 (fun v1 μ1 z1 H locs hp X => ?_)
  obtain ⟨rfl, -, ⟨P2, G2, cy2, hK2, hc2, hcy2⟩, hw, hNS2, ho⟩ := hp
  have hR := RR_w hR hw
  have s72 : sh μ1 7 = some (.inr (2, 1)) := by rw [hw.1 7 n7]; exact h7
  refine m_istore hx hb hL dL_law_418 (Nat.le_of_ble_eq_true rfl) (fun ls hL => ?_)
  refine m_aload_n hx hb hL dL_law_420 rfl ?_
  refine m_aload_n hx hb hL dL_law_421 rfl ?_
  refine m_iload hx hb hL dL_law_422 rfl ?_
  refine lv_iconst (v := iv 1) hx hb dL_law_424 rfl ?_
  refine m_iadd hx hb dL_law_425 ?_
  refine l_sld hx hb hX hbl hbA X.2.1 hL0 (i := (i + 1)) (by omega) (by omega) dL_law_426 ?_
  refine m_aload_n hx hb hL dL_law_427 rfl ?_
  refine m_iload hx hb hL dL_law_428 rfl ?_
  refine lv_iconst (v := iv 2) hx hb dL_law_430 rfl ?_
  refine m_iadd hx hb dL_law_431 ?_
  refine l_sld hx hb hX hbl hbA X.2.1 hL0 (i := (i + 2)) (by omega) (by omega) dL_law_432 ?_
  refine m_aload_n hx hb hL dL_law_433 rfl ?_
  refine m_iload hx hb hL dL_law_434 rfl ?_
  refine lv_iconst (v := iv 3) hx hb dL_law_436 rfl ?_
  refine m_iadd hx hb dL_law_437 ?_
  refine l_sld hx hb hX hbl hbA X.2.1 hL0 (i := (i + 3)) (by omega) (by omega) dL_law_438 ?_
  refine m_callV hC X (k_X6_write hR hK.1.1 (sx_rg xs (i + 1)) (sx_rg xs (i + 2)) (sx_rg xs (i + 3)) (by have := KK_17 hK; omega)) VL_83 hR.1 rfl ⟨by decide, by decide⟩ ⟨by show _ ≤ 601024; omega, by show _ ≤ 7293000; omega⟩ hL.1 rfl (Nat.le_of_ble_eq_true rfl) dL_law_439 (fun v2 μ2 z2 H locs hp X => ?_)
  obtain ⟨rfl, hz_, hR, hf⟩ := hp
  have hz_ := hz_.symm
  subst hz_
  have hc2 := rfr_CR hf hc2
  have hNS2 := NS.fr hNS2 hf.1 rfl
  have s72 := (hf.1 7).trans s72
  have ho := fun q => (hf.2.2.1 7 0).trans (ho q)
  refine m_istore hx hb hL dL_law_442 (Nat.le_of_ble_eq_true rfl) (fun ls hL => ?_)
  refine m_aload_n hx hb hL dL_law_444 rfl ?_
  refine m_callV hC X (k_X6_thrown hR hK2.1.1) VL_66 hR.1 rfl ⟨by decide, by decide⟩ ⟨by show _ ≤ 601024; omega, by show _ ≤ 7293000; omega⟩ hL.1 rfl (Nat.le_of_ble_eq_true rfl) dL_law_445 (fun v3 μ3 z3 H locs hp X => ?_)
  obtain ⟨rfl, hz_, hR, hf⟩ := hp
  have hz_ := hz_.symm
  subst hz_
  have hc2 := rfr_CR hf hc2
  have hNS2 := NS.fr hNS2 hf.1 rfl
  have s72 := (hf.1 7).trans s72
  have ho := fun q => (hf.2.2.1 7 0).trans (ho q)
  refine m_iload hx hb hL dL_law_448 rfl ?_
  refine lv_icmp_eq (tgt := 455) hx hb dL_law_450 (by decide) (fun _ => ?_) (fun q => absurd rfl q)
  refine m_iload hx hb hL dL_law_455 rfl ?_
  have b0 := hK2.1.1.b0 0
  refine m_if_ne (tgt := 472) hx hb dL_law_457 (by decide) (by omega) (fun _ => ?_) (fun c0 => ?_)
  · refine lv_goto (tgt := 837) hx hb dL_law_472 (by decide) ?_
    refine W_widen (k := 52 + 4 * (n + 1)) (n := 19628 + 33 * (n + 1)) (by omega) (by omega) ?_
    have t6 : (rWrite A (sx xs (i + 1)) (sx xs (i + 2)) (sx xs (i + 3))) 6 0 ≤ A 6 0 + 1 := by rw [wr_6]; omega
    exact K _ _ _ _ _ ls ⟨(rWrite A (sx xs (i + 1)) (sx xs (i + 2)) (sx xs (i + 3))), P2, G2, cy2, X, hR, hc2, hK2, hNS2, s72, by omega, by omega⟩ (lq_none 5 (lq_none 6 hL))
  · have ho := ho c0
    refine m_aload_n hx hb hL dL_law_460 rfl ?_
    refine lv_iconst (v := iv 0) hx hb dL_law_461 rfl ?_
    refine m_lald (n := 1) (i := 0) hC X s72 (by decide +kernel) (by decide) (by decide) ho dL_law_462 ?_
    refine m_iload hx hb hL dL_law_463 rfl ?_
    refine lv_i2l (v := (iv (rWriteV A (sx xs (i + 1)) (sx xs (i + 2)) (sx xs (i + 3)))).toInt64) hx hb dL_law_465 rfl ?_
    refine l_lcmp hx hb dL_law_466 ?_
    refine m_if_eq (x := 0) (tgt := 472) hx hb dL_law_467 (by decide) (by omega) (fun _ => ?_) (fun q => absurd rfl q)
    refine lv_goto (tgt := 837) hx hb dL_law_472 (by decide) ?_
    refine W_widen (k := 52 + 4 * (n + 1)) (n := 19628 + 33 * (n + 1)) (by omega) (by omega) ?_
    have t6 : (rWrite A (sx xs (i + 1)) (sx xs (i + 2)) (sx xs (i + 3))) 6 0 ≤ A 6 0 + 1 := by rw [wr_6]; omega
    exact K _ _ _ _ _ ls ⟨(rWrite A (sx xs (i + 1)) (sx xs (i + 2)) (sx xs (i + 3))), P2, G2, cy2, X, hR, hc2, hK2, hNS2, s72, by omega, by omega⟩ (lq_none 5 (lq_none 6 hL))
set_option maxHeartbeats 4000000 in
theorem l_tag {G : mG} {p : Program} {l : Launch} {e : Env} {c : Code} {s : State} {m : MethodId} {args : Array Value} {below : List Frame} {meth : Method} {Q : State → Prop} {b L : Nat} {xs : Nat → Int32} {ρ : Nat → Nat} {n : Nat} {i : Int} {μ : mM} {z : Nat} {H : Heap} {locs : List Loc} {ls : Array Slot} (C : LC G p l c s m args b L xs) (hn : n < 512) (hi : 0 ≤ i ∧ i + 4 ≤ (L : Int)) (V : LV G s ρ n μ z H locs) (hL : lq ls [some (.ref b), some (.ref (ρ 0)), some (.ref (ρ 6)), some (.ref (ρ 7)), some (.int (iv i)), none, none])
    (K : ∀ (ρ : Nat → Nat) (μ : mM) (z : Nat) (H : Heap) (locs : List Loc) (ls : Array Slot), LV G s ρ (n + 1) μ z H locs → lq ls [some (.ref b), some (.ref (ρ 0)), some (.ref (ρ 6)), some (.ref (ρ 7)), some (.int (iv i)), none, none] → W p l e (rm 12 434 601024 7293000) s m args below meth c H locs (52 + 4 * (n + 1)) (19628 + 33 * (n + 1)) Q (F0 m 837 ls [])) : W p l e (rm 12 434 601024 7293000) s m args below meth c H locs (52 + 4 * n) (19628 + 33 * n) Q (F0 m 475 ls []) := by
  obtain ⟨hl, hC, hxW, hxZ, hX, hbl, hL0⟩ := C
  obtain ⟨A, P, Gs, cy, X, hR, hc, hK, hNS, h7, h6, hcy⟩ := V
  have hx := hC.1
  have hb := hC.2.1
  have hbA : ¬ s.heap.size ≤ b := by omega
  have f00 := hc.1.1.1
  refine m_aload_n hx hb hL dL_law_475 rfl ?_
  refine m_aload_n hx hb hL dL_law_476 rfl ?_
  refine m_iload hx hb hL dL_law_477 rfl ?_
  refine lv_iconst (v := iv 1) hx hb dL_law_479 rfl ?_
  refine m_iadd hx hb dL_law_480 ?_
  refine l_sld hx hb hX hbl hbA X.2.1 hL0 (i := (i + 1)) (by omega) (by omega) dL_law_481 ?_
  refine m_aload_n hx hb hL dL_law_482 rfl ?_
  refine x_callH hC hxW hxZ X (k_L_tag hl hc hK hNS h7 (sx_rng xs (i + 1))) HL_84 rfl ⟨by decide, by decide⟩ ⟨by show 52 + 4 * n + _ ≤ 601024; omega, by show 19628 + 33 * n + _ ≤ 7293000; omega⟩ hL.1 rfl (Nat.le_of_ble_eq_true rfl) dL_law_483 (fun v1 μ1 z1 H locs hp X => ?_)
  obtain ⟨rfl, -, ⟨P2, G2, cy2, hK2, hc2, hcy2⟩, hw, hNS2, ho⟩ := hp
  have hR := RR_w hR hw
  have s72 : sh μ1 7 = some (.inr (2, 1)) := by rw [hw.1 7 n7]; exact h7
  refine m_istore hx hb hL dL_law_486 (Nat.le_of_ble_eq_true rfl) (fun ls hL => ?_)
  refine m_aload_n hx hb hL dL_law_488 rfl ?_
  refine m_aload_n hx hb hL dL_law_489 rfl ?_
  refine m_iload hx hb hL dL_law_490 rfl ?_
  refine lv_iconst (v := iv 1) hx hb dL_law_492 rfl ?_
  refine m_iadd hx hb dL_law_493 ?_
  refine l_sld hx hb hX hbl hbA X.2.1 hL0 (i := (i + 1)) (by omega) (by omega) dL_law_494 ?_
  refine m_callV hC X (k_X6_tag hR hK.1.1 (sx_rg xs (i + 1))) VL_86 hR.1 rfl ⟨by decide, by decide⟩ ⟨by show _ ≤ 601024; omega, by show _ ≤ 7293000; omega⟩ hL.1 rfl (Nat.le_of_ble_eq_true rfl) dL_law_495 (fun v2 μ2 z2 H locs hp X => ?_)
  obtain ⟨rfl, hz_, hR, hf⟩ := hp
  have hz_ := hz_.symm
  subst hz_
  have hc2 := rfr_CR hf hc2
  have hNS2 := NS.fr hNS2 hf.1 rfl
  have s72 := (hf.1 7).trans s72
  have ho := fun q => (hf.2.2.1 7 0).trans (ho q)
  refine m_istore hx hb hL dL_law_498 (Nat.le_of_ble_eq_true rfl) (fun ls hL => ?_)
  refine m_aload_n hx hb hL dL_law_500 rfl ?_
  refine m_callV hC X (k_X6_thrown hR hK2.1.1) VL_66 hR.1 rfl ⟨by decide, by decide⟩ ⟨by show _ ≤ 601024; omega, by show _ ≤ 7293000; omega⟩ hL.1 rfl (Nat.le_of_ble_eq_true rfl) dL_law_501 (fun v3 μ3 z3 H locs hp X => ?_)
  obtain ⟨rfl, hz_, hR, hf⟩ := hp
  have hz_ := hz_.symm
  subst hz_
  have hc2 := rfr_CR hf hc2
  have hNS2 := NS.fr hNS2 hf.1 rfl
  have s72 := (hf.1 7).trans s72
  have ho := fun q => (hf.2.2.1 7 0).trans (ho q)
  refine m_iload hx hb hL dL_law_504 rfl ?_
  refine lv_icmp_eq (tgt := 511) hx hb dL_law_506 (by decide) (fun _ => ?_) (fun q => absurd rfl q)
  refine m_iload hx hb hL dL_law_511 rfl ?_
  have b0 := hK2.1.1.b0 0
  refine m_if_ne (tgt := 528) hx hb dL_law_513 (by decide) (by omega) (fun _ => ?_) (fun c0 => ?_)
  · refine lv_goto (tgt := 837) hx hb dL_law_528 (by decide) ?_
    refine W_widen (k := 52 + 4 * (n + 1)) (n := 19628 + 33 * (n + 1)) (by omega) (by omega) ?_
    have t6 : (up A 0 0 (rTagT A (sx xs (i + 1)))) 6 0 ≤ A 6 0 + 1 := by rw [up_k _ _ (by decide)]; omega
    exact K _ _ _ _ _ ls ⟨(up A 0 0 (rTagT A (sx xs (i + 1)))), P2, G2, cy2, X, hR, hc2, hK2, hNS2, s72, by omega, by omega⟩ (lq_none 5 (lq_none 6 hL))
  · have ho := ho c0
    refine m_aload_n hx hb hL dL_law_516 rfl ?_
    refine lv_iconst (v := iv 0) hx hb dL_law_517 rfl ?_
    refine m_lald (n := 1) (i := 0) hC X s72 (by decide +kernel) (by decide) (by decide) ho dL_law_518 ?_
    refine m_iload hx hb hL dL_law_519 rfl ?_
    refine lv_i2l (v := (iv (rTagV A (sx xs (i + 1)))).toInt64) hx hb dL_law_521 rfl ?_
    refine l_lcmp hx hb dL_law_522 ?_
    refine m_if_eq (x := 0) (tgt := 528) hx hb dL_law_523 (by decide) (by omega) (fun _ => ?_) (fun q => absurd rfl q)
    refine lv_goto (tgt := 837) hx hb dL_law_528 (by decide) ?_
    refine W_widen (k := 52 + 4 * (n + 1)) (n := 19628 + 33 * (n + 1)) (by omega) (by omega) ?_
    have t6 : (up A 0 0 (rTagT A (sx xs (i + 1)))) 6 0 ≤ A 6 0 + 1 := by rw [up_k _ _ (by decide)]; omega
    exact K _ _ _ _ _ ls ⟨(up A 0 0 (rTagT A (sx xs (i + 1)))), P2, G2, cy2, X, hR, hc2, hK2, hNS2, s72, by omega, by omega⟩ (lq_none 5 (lq_none 6 hL))
set_option maxHeartbeats 4000000 in
theorem l_same {G : mG} {p : Program} {l : Launch} {e : Env} {c : Code} {s : State} {m : MethodId} {args : Array Value} {below : List Frame} {meth : Method} {Q : State → Prop} {b L : Nat} {xs : Nat → Int32} {ρ : Nat → Nat} {n : Nat} {i : Int} {μ : mM} {z : Nat} {H : Heap} {locs : List Loc} {ls : Array Slot} (C : LC G p l c s m args b L xs) (hn : n < 512) (hi : 0 ≤ i ∧ i + 4 ≤ (L : Int)) (V : LV G s ρ n μ z H locs) (hL : lq ls [some (.ref b), some (.ref (ρ 0)), some (.ref (ρ 6)), some (.ref (ρ 7)), some (.int (iv i)), none, none])
    (K : ∀ (ρ : Nat → Nat) (μ : mM) (z : Nat) (H : Heap) (locs : List Loc) (ls : Array Slot), LV G s ρ (n + 1) μ z H locs → lq ls [some (.ref b), some (.ref (ρ 0)), some (.ref (ρ 6)), some (.ref (ρ 7)), some (.int (iv i)), none, none] → W p l e (rm 12 434 601024 7293000) s m args below meth c H locs (52 + 4 * (n + 1)) (19628 + 33 * (n + 1)) Q (F0 m 837 ls [])) : W p l e (rm 12 434 601024 7293000) s m args below meth c H locs (52 + 4 * n) (19628 + 33 * n) Q (F0 m 531 ls []) := by
  obtain ⟨hl, hC, hxW, hxZ, hX, hbl, hL0⟩ := C
  obtain ⟨A, P, Gs, cy, X, hR, hc, hK, hNS, h7, h6, hcy⟩ := V
  have hx := hC.1
  have hb := hC.2.1
  have hbA : ¬ s.heap.size ≤ b := by omega
  have f00 := hc.1.1.1
  refine m_aload_n hx hb hL dL_law_531 rfl ?_
  refine m_aload_n hx hb hL dL_law_532 rfl ?_
  refine m_iload hx hb hL dL_law_533 rfl ?_
  refine lv_iconst (v := iv 1) hx hb dL_law_535 rfl ?_
  refine m_iadd hx hb dL_law_536 ?_
  refine l_sld hx hb hX hbl hbA X.2.1 hL0 (i := (i + 1)) (by omega) (by omega) dL_law_537 ?_
  refine m_aload_n hx hb hL dL_law_538 rfl ?_
  refine m_iload hx hb hL dL_law_539 rfl ?_
  refine lv_iconst (v := iv 2) hx hb dL_law_541 rfl ?_
  refine m_iadd hx hb dL_law_542 ?_
  refine l_sld hx hb hX hbl hbA X.2.1 hL0 (i := (i + 2)) (by omega) (by omega) dL_law_543 ?_
  refine m_aload_n hx hb hL dL_law_544 rfl ?_
  refine x_callH hC hxW hxZ X (k_L_same hl hc hK hNS h7 (sx_rng xs (i + 1)) (sx_rng xs (i + 2))) HL_87 rfl ⟨by decide, by decide⟩ ⟨by show 52 + 4 * n + _ ≤ 601024; omega, by show 19628 + 33 * n + _ ≤ 7293000; omega⟩ hL.1 rfl (Nat.le_of_ble_eq_true rfl) dL_law_545 (fun v1 μ1 z1 H locs hp X => ?_)
  obtain ⟨rfl, -, ⟨P2, G2, cy2, hK2, hc2, hcy2⟩, hw, hNS2, ho⟩ := hp
  have hR := RR_w hR hw
  have s72 : sh μ1 7 = some (.inr (2, 1)) := by rw [hw.1 7 n7]; exact h7
  refine m_istore hx hb hL dL_law_548 (Nat.le_of_ble_eq_true rfl) (fun ls hL => ?_)
  refine m_aload_n hx hb hL dL_law_550 rfl ?_
  refine m_aload_n hx hb hL dL_law_551 rfl ?_
  refine m_iload hx hb hL dL_law_552 rfl ?_
  refine lv_iconst (v := iv 1) hx hb dL_law_554 rfl ?_
  refine m_iadd hx hb dL_law_555 ?_
  refine l_sld hx hb hX hbl hbA X.2.1 hL0 (i := (i + 1)) (by omega) (by omega) dL_law_556 ?_
  refine m_aload_n hx hb hL dL_law_557 rfl ?_
  refine m_iload hx hb hL dL_law_558 rfl ?_
  refine lv_iconst (v := iv 2) hx hb dL_law_560 rfl ?_
  refine m_iadd hx hb dL_law_561 ?_
  refine l_sld hx hb hX hbl hbA X.2.1 hL0 (i := (i + 2)) (by omega) (by omega) dL_law_562 ?_
  refine m_callV hC X (k_X6_same hR hK.1.1 (sx_rg xs (i + 1)) (sx_rg xs (i + 2))) VL_90 hR.1 rfl ⟨by decide, by decide⟩ ⟨by show _ ≤ 601024; omega, by show _ ≤ 7293000; omega⟩ hL.1 rfl (Nat.le_of_ble_eq_true rfl) dL_law_563 (fun v2 μ2 z2 H locs hp X => ?_)
  obtain ⟨rfl, hz_, hR, hf⟩ := hp
  have hz_ := hz_.symm
  subst hz_
  have hc2 := rfr_CR hf hc2
  have hNS2 := NS.fr hNS2 hf.1 rfl
  have s72 := (hf.1 7).trans s72
  have ho := fun q => (hf.2.2.1 7 0).trans (ho q)
  refine m_istore hx hb hL dL_law_566 (Nat.le_of_ble_eq_true rfl) (fun ls hL => ?_)
  refine m_aload_n hx hb hL dL_law_568 rfl ?_
  refine m_callV hC X (k_X6_thrown hR hK2.1.1) VL_66 hR.1 rfl ⟨by decide, by decide⟩ ⟨by show _ ≤ 601024; omega, by show _ ≤ 7293000; omega⟩ hL.1 rfl (Nat.le_of_ble_eq_true rfl) dL_law_569 (fun v3 μ3 z3 H locs hp X => ?_)
  obtain ⟨rfl, hz_, hR, hf⟩ := hp
  have hz_ := hz_.symm
  subst hz_
  have hc2 := rfr_CR hf hc2
  have hNS2 := NS.fr hNS2 hf.1 rfl
  have s72 := (hf.1 7).trans s72
  have ho := fun q => (hf.2.2.1 7 0).trans (ho q)
  refine m_iload hx hb hL dL_law_572 rfl ?_
  refine lv_icmp_eq (tgt := 579) hx hb dL_law_574 (by decide) (fun _ => ?_) (fun q => absurd rfl q)
  refine m_iload hx hb hL dL_law_579 rfl ?_
  have b0 := hK2.1.1.b0 0
  refine m_if_ne (tgt := 603) hx hb dL_law_581 (by decide) (by omega) (fun _ => ?_) (fun c0 => ?_)
  · refine lv_goto (tgt := 837) hx hb dL_law_603 (by decide) ?_
    refine W_widen (k := 52 + 4 * (n + 1)) (n := 19628 + 33 * (n + 1)) (by omega) (by omega) ?_
    have t6 : (up A 0 0 (if rReg (sx xs (i + 1)) ∧ rReg (sx xs (i + 2)) then 0 else 1)) 6 0 ≤ A 6 0 + 1 := by rw [up_k _ _ (by decide)]; omega
    exact K _ _ _ _ _ ls ⟨(up A 0 0 (if rReg (sx xs (i + 1)) ∧ rReg (sx xs (i + 2)) then 0 else 1)), P2, G2, cy2, X, hR, hc2, hK2, hNS2, s72, by omega, by omega⟩ (lq_none 5 (lq_none 6 hL))
  · have ho := ho c0
    refine m_aload_n hx hb hL dL_law_584 rfl ?_
    refine lv_iconst (v := iv 0) hx hb dL_law_585 rfl ?_
    refine m_lald (n := 1) (i := 0) hC X s72 (by decide +kernel) (by decide) (by decide) ho dL_law_586 ?_
    refine m_iload hx hb hL dL_law_587 rfl ?_
    have hv01 : rSameV A (sx xs (i + 1)) (sx xs (i + 2)) = 0 ∨ rSameV A (sx xs (i + 1)) (sx xs (i + 2)) = 1 := by unfold rSameV; split; exact bZ_or _; exact Or.inl rfl
    refine m_if_eq (x := rSameV A (sx xs (i + 1)) (sx xs (i + 2))) (tgt := 596) hx hb dL_law_589 (by decide) (by omega) (fun cv => ?_) (fun cv => ?_)
    · refine lv_lconst (v := (iv (rSameV A (sx xs (i + 1)) (sx xs (i + 2)))).toInt64) hx hb dL_law_596 (by rw [cv]; decide +kernel) ?_
      refine l_lcmp hx hb dL_law_597 ?_
      refine m_if_eq (x := 0) (tgt := 603) hx hb dL_law_598 (by decide) (by omega) (fun _ => ?_) (fun q => absurd rfl q)
      refine lv_goto (tgt := 837) hx hb dL_law_603 (by decide) ?_
      refine W_widen (k := 52 + 4 * (n + 1)) (n := 19628 + 33 * (n + 1)) (by omega) (by omega) ?_
      have t6 : (up A 0 0 (if rReg (sx xs (i + 1)) ∧ rReg (sx xs (i + 2)) then 0 else 1)) 6 0 ≤ A 6 0 + 1 := by rw [up_k _ _ (by decide)]; omega
      exact K _ _ _ _ _ ls ⟨(up A 0 0 (if rReg (sx xs (i + 1)) ∧ rReg (sx xs (i + 2)) then 0 else 1)), P2, G2, cy2, X, hR, hc2, hK2, hNS2, s72, by omega, by omega⟩ (lq_none 5 (lq_none 6 hL))
    · have cv : rSameV A (sx xs (i + 1)) (sx xs (i + 2)) = 1 := by omega
      refine lv_lconst (v := (iv (rSameV A (sx xs (i + 1)) (sx xs (i + 2)))).toInt64) hx hb dL_law_592 (by rw [cv]; decide +kernel) ?_
      refine lv_goto (tgt := 597) hx hb dL_law_593 (by decide) ?_
      refine l_lcmp hx hb dL_law_597 ?_
      refine m_if_eq (x := 0) (tgt := 603) hx hb dL_law_598 (by decide) (by omega) (fun _ => ?_) (fun q => absurd rfl q)
      refine lv_goto (tgt := 837) hx hb dL_law_603 (by decide) ?_
      refine W_widen (k := 52 + 4 * (n + 1)) (n := 19628 + 33 * (n + 1)) (by omega) (by omega) ?_
      have t6 : (up A 0 0 (if rReg (sx xs (i + 1)) ∧ rReg (sx xs (i + 2)) then 0 else 1)) 6 0 ≤ A 6 0 + 1 := by rw [up_k _ _ (by decide)]; omega
      exact K _ _ _ _ _ ls ⟨(up A 0 0 (if rReg (sx xs (i + 1)) ∧ rReg (sx xs (i + 2)) then 0 else 1)), P2, G2, cy2, X, hR, hc2, hK2, hNS2, s72, by omega, by omega⟩ (lq_none 5 (lq_none 6 hL))
set_option maxHeartbeats 4000000 in
theorem l_where {G : mG} {p : Program} {l : Launch} {e : Env} {c : Code} {s : State} {m : MethodId} {args : Array Value} {below : List Frame} {meth : Method} {Q : State → Prop} {b L : Nat} {xs : Nat → Int32} {ρ : Nat → Nat} {n : Nat} {i : Int} {μ : mM} {z : Nat} {H : Heap} {locs : List Loc} {ls : Array Slot} (C : LC G p l c s m args b L xs) (hn : n < 512) (hi : 0 ≤ i ∧ i + 4 ≤ (L : Int)) (V : LV G s ρ n μ z H locs) (hL : lq ls [some (.ref b), some (.ref (ρ 0)), some (.ref (ρ 6)), some (.ref (ρ 7)), some (.int (iv i)), none, none])
    (K : ∀ (ρ : Nat → Nat) (μ : mM) (z : Nat) (H : Heap) (locs : List Loc) (ls : Array Slot), LV G s ρ (n + 1) μ z H locs → lq ls [some (.ref b), some (.ref (ρ 0)), some (.ref (ρ 6)), some (.ref (ρ 7)), some (.int (iv i)), none, none] → W p l e (rm 12 434 601024 7293000) s m args below meth c H locs (52 + 4 * (n + 1)) (19628 + 33 * (n + 1)) Q (F0 m 837 ls [])) : W p l e (rm 12 434 601024 7293000) s m args below meth c H locs (52 + 4 * n) (19628 + 33 * n) Q (F0 m 606 ls []) := by
  obtain ⟨hl, hC, hxW, hxZ, hX, hbl, hL0⟩ := C
  obtain ⟨A, P, Gs, cy, X, hR, hc, hK, hNS, h7, h6, hcy⟩ := V
  have hx := hC.1
  have hb := hC.2.1
  have hbA : ¬ s.heap.size ≤ b := by omega
  have f00 := hc.1.1.1
  refine m_aload_n hx hb hL dL_law_606 rfl ?_
  refine m_aload_n hx hb hL dL_law_607 rfl ?_
  refine m_iload hx hb hL dL_law_608 rfl ?_
  refine lv_iconst (v := iv 1) hx hb dL_law_610 rfl ?_
  refine m_iadd hx hb dL_law_611 ?_
  refine l_sld hx hb hX hbl hbA X.2.1 hL0 (i := (i + 1)) (by omega) (by omega) dL_law_612 ?_
  refine m_aload_n hx hb hL dL_law_613 rfl ?_
  refine x_callH hC hxW hxZ X (k_L_where hl hc hK hNS h7 (sx_rng xs (i + 1))) HL_91 rfl ⟨by decide, by decide⟩ ⟨by show 52 + 4 * n + _ ≤ 601024; omega, by show 19628 + 33 * n + _ ≤ 7293000; omega⟩ hL.1 rfl (Nat.le_of_ble_eq_true rfl) dL_law_614 (fun v1 μ1 z1 H locs hp X => ?_)
  obtain ⟨rfl, -, ⟨P2, G2, cy2, hK2, hc2, hcy2⟩, hw, hNS2, ho⟩ := hp
  have hR := RR_w hR hw
  have s72 : sh μ1 7 = some (.inr (2, 1)) := by rw [hw.1 7 n7]; exact h7
  refine m_istore hx hb hL dL_law_617 (Nat.le_of_ble_eq_true rfl) (fun ls hL => ?_)
  refine m_aload_n hx hb hL dL_law_619 rfl ?_
  refine m_aload_n hx hb hL dL_law_620 rfl ?_
  refine m_iload hx hb hL dL_law_621 rfl ?_
  refine lv_iconst (v := iv 1) hx hb dL_law_623 rfl ?_
  refine m_iadd hx hb dL_law_624 ?_
  refine l_sld hx hb hX hbl hbA X.2.1 hL0 (i := (i + 1)) (by omega) (by omega) dL_law_625 ?_
  refine m_callV hC X (k_X6_where hR hK.1.1 (sx_rg xs (i + 1))) VL_93 hR.1 rfl ⟨by decide, by decide⟩ ⟨by show _ ≤ 601024; omega, by show _ ≤ 7293000; omega⟩ hL.1 rfl (Nat.le_of_ble_eq_true rfl) dL_law_626 (fun v2 μ2 z2 H locs hp X => ?_)
  obtain ⟨rfl, hz_, hR, hf⟩ := hp
  have hz_ := hz_.symm
  subst hz_
  have hc2 := rfr_CR hf hc2
  have hNS2 := NS.fr hNS2 hf.1 rfl
  have s72 := (hf.1 7).trans s72
  have ho := fun q => (hf.2.2.1 7 0).trans (ho q)
  refine m_istore hx hb hL dL_law_629 (Nat.le_of_ble_eq_true rfl) (fun ls hL => ?_)
  refine m_aload_n hx hb hL dL_law_631 rfl ?_
  refine m_callV hC X (k_X6_thrown hR hK2.1.1) VL_66 hR.1 rfl ⟨by decide, by decide⟩ ⟨by show _ ≤ 601024; omega, by show _ ≤ 7293000; omega⟩ hL.1 rfl (Nat.le_of_ble_eq_true rfl) dL_law_632 (fun v3 μ3 z3 H locs hp X => ?_)
  obtain ⟨rfl, hz_, hR, hf⟩ := hp
  have hz_ := hz_.symm
  subst hz_
  have hc2 := rfr_CR hf hc2
  have hNS2 := NS.fr hNS2 hf.1 rfl
  have s72 := (hf.1 7).trans s72
  have ho := fun q => (hf.2.2.1 7 0).trans (ho q)
  refine m_iload hx hb hL dL_law_635 rfl ?_
  refine lv_icmp_eq (tgt := 642) hx hb dL_law_637 (by decide) (fun _ => ?_) (fun q => absurd rfl q)
  refine m_iload hx hb hL dL_law_642 rfl ?_
  have b0 := hK2.1.1.b0 0
  refine m_if_ne (tgt := 659) hx hb dL_law_644 (by decide) (by omega) (fun _ => ?_) (fun c0 => ?_)
  · refine lv_goto (tgt := 837) hx hb dL_law_659 (by decide) ?_
    refine W_widen (k := 52 + 4 * (n + 1)) (n := 19628 + 33 * (n + 1)) (by omega) (by omega) ?_
    have t6 : (up A 0 0 (if rReg (sx xs (i + 1)) then 0 else 1)) 6 0 ≤ A 6 0 + 1 := by rw [up_k _ _ (by decide)]; omega
    exact K _ _ _ _ _ ls ⟨(up A 0 0 (if rReg (sx xs (i + 1)) then 0 else 1)), P2, G2, cy2, X, hR, hc2, hK2, hNS2, s72, by omega, by omega⟩ (lq_none 5 (lq_none 6 hL))
  · have ho := ho c0
    refine m_aload_n hx hb hL dL_law_647 rfl ?_
    refine lv_iconst (v := iv 0) hx hb dL_law_648 rfl ?_
    refine m_lald (n := 1) (i := 0) hC X s72 (by decide +kernel) (by decide) (by decide) ho dL_law_649 ?_
    refine m_iload hx hb hL dL_law_650 rfl ?_
    refine lv_i2l (v := (iv (rWhereV A (sx xs (i + 1)))).toInt64) hx hb dL_law_652 rfl ?_
    refine l_lcmp hx hb dL_law_653 ?_
    refine m_if_eq (x := 0) (tgt := 659) hx hb dL_law_654 (by decide) (by omega) (fun _ => ?_) (fun q => absurd rfl q)
    refine lv_goto (tgt := 837) hx hb dL_law_659 (by decide) ?_
    refine W_widen (k := 52 + 4 * (n + 1)) (n := 19628 + 33 * (n + 1)) (by omega) (by omega) ?_
    have t6 : (up A 0 0 (if rReg (sx xs (i + 1)) then 0 else 1)) 6 0 ≤ A 6 0 + 1 := by rw [up_k _ _ (by decide)]; omega
    exact K _ _ _ _ _ ls ⟨(up A 0 0 (if rReg (sx xs (i + 1)) then 0 else 1)), P2, G2, cy2, X, hR, hc2, hK2, hNS2, s72, by omega, by omega⟩ (lq_none 5 (lq_none 6 hL))
set_option maxHeartbeats 4000000 in
theorem l_begin {G : mG} {p : Program} {l : Launch} {e : Env} {c : Code} {s : State} {m : MethodId} {args : Array Value} {below : List Frame} {meth : Method} {Q : State → Prop} {b L : Nat} {xs : Nat → Int32} {ρ : Nat → Nat} {n : Nat} {i : Int} {μ : mM} {z : Nat} {H : Heap} {locs : List Loc} {ls : Array Slot} (C : LC G p l c s m args b L xs) (hn : n < 512) (hi : 0 ≤ i ∧ i + 4 ≤ (L : Int)) (V : LV G s ρ n μ z H locs) (hL : lq ls [some (.ref b), some (.ref (ρ 0)), some (.ref (ρ 6)), some (.ref (ρ 7)), some (.int (iv i)), none, none])
    (K : ∀ (ρ : Nat → Nat) (μ : mM) (z : Nat) (H : Heap) (locs : List Loc) (ls : Array Slot), LV G s ρ (n + 1) μ z H locs → lq ls [some (.ref b), some (.ref (ρ 0)), some (.ref (ρ 6)), some (.ref (ρ 7)), some (.int (iv i)), none, none] → W p l e (rm 12 434 601024 7293000) s m args below meth c H locs (52 + 4 * (n + 1)) (19628 + 33 * (n + 1)) Q (F0 m 837 ls [])) : W p l e (rm 12 434 601024 7293000) s m args below meth c H locs (52 + 4 * n) (19628 + 33 * n) Q (F0 m 662 ls []) := by
  obtain ⟨hl, hC, hxW, hxZ, hX, hbl, hL0⟩ := C
  obtain ⟨A, P, Gs, cy, X, hR, hc, hK, hNS, h7, h6, hcy⟩ := V
  have hx := hC.1
  have hb := hC.2.1
  have hbA : ¬ s.heap.size ≤ b := by omega
  have f00 := hc.1.1.1
  refine m_aload_n hx hb hL dL_law_662 rfl ?_
  refine m_callV hC X (k_X5_begin hc hK (by omega)) VL_94 f00 rfl ⟨by decide, by decide⟩ ⟨by show _ ≤ 601024; omega, by show _ ≤ 7293000; omega⟩ hL.1 rfl (Nat.le_of_ble_eq_true rfl) dL_law_663 (fun v1 μ1 z1 H locs hp X => ?_)
  obtain ⟨rfl, hz_, hc2, hf⟩ := hp
  have hz_ := hz_.symm
  subst hz_
  obtain ⟨G2, hK2⟩ := bg_KK hK
  obtain ⟨cy2, eC⟩ : ∃ cy2, cy2 = (if A 18 0 ≤ 0 then cy + 1 else cy) := ⟨_, rfl⟩
  rw [← eC] at hc2
  have hcy2 : cy2 ≤ cy + 1 := by rw [eC]; split <;> omega
  obtain ⟨P2, eP⟩ : ∃ P2, P2 = P := ⟨_, rfl⟩
  rw [← eP] at hc2 hK2
  have hNS2 : NS (rBegin A) μ1 := NS.fr hNS hf.1 bg_6
  have s72 := (hf.1 7).trans h7
  have hR := RR_c hR hf
  refine m_aload_n hx hb hL dL_law_666 rfl ?_
  refine m_callV hC X (k_X6_begin hR hK.1.1) VL_97 hR.1 rfl ⟨by decide, by decide⟩ ⟨by show _ ≤ 601024; omega, by show _ ≤ 7293000; omega⟩ hL.1 rfl (Nat.le_of_ble_eq_true rfl) dL_law_667 (fun v2 μ2 z2 H locs hp X => ?_)
  obtain ⟨rfl, hz_, hR, hf⟩ := hp
  have hz_ := hz_.symm
  subst hz_
  have hc2 := rfr_CR hf hc2
  have hNS2 := NS.fr hNS2 hf.1 rfl
  have s72 := (hf.1 7).trans s72
  refine lv_icmp_eq (tgt := 837) hx hb dL_law_670 (by decide) (fun _ => ?_) (fun q => absurd rfl q)
  refine W_widen (k := 52 + 4 * (n + 1)) (n := 19628 + 33 * (n + 1)) (by omega) (by omega) ?_
  have t6 : (rBegin A) 6 0 ≤ A 6 0 + 1 := by rw [bg_6]; omega
  exact K _ _ _ _ _ ls ⟨(rBegin A), P2, G2, cy2, X, hR, hc2, hK2, hNS2, s72, by omega, by omega⟩ hL
set_option maxHeartbeats 4000000 in
theorem l_work {G : mG} {p : Program} {l : Launch} {e : Env} {c : Code} {s : State} {m : MethodId} {args : Array Value} {below : List Frame} {meth : Method} {Q : State → Prop} {b L : Nat} {xs : Nat → Int32} {ρ : Nat → Nat} {n : Nat} {i : Int} {μ : mM} {z : Nat} {H : Heap} {locs : List Loc} {ls : Array Slot} (C : LC G p l c s m args b L xs) (hn : n < 512) (hi : 0 ≤ i ∧ i + 4 ≤ (L : Int)) (V : LV G s ρ n μ z H locs) (hL : lq ls [some (.ref b), some (.ref (ρ 0)), some (.ref (ρ 6)), some (.ref (ρ 7)), some (.int (iv i)), none, none])
    (K : ∀ (ρ : Nat → Nat) (μ : mM) (z : Nat) (H : Heap) (locs : List Loc) (ls : Array Slot), LV G s ρ (n + 1) μ z H locs → lq ls [some (.ref b), some (.ref (ρ 0)), some (.ref (ρ 6)), some (.ref (ρ 7)), some (.int (iv i)), none, none] → W p l e (rm 12 434 601024 7293000) s m args below meth c H locs (52 + 4 * (n + 1)) (19628 + 33 * (n + 1)) Q (F0 m 837 ls [])) : W p l e (rm 12 434 601024 7293000) s m args below meth c H locs (52 + 4 * n) (19628 + 33 * n) Q (F0 m 675 ls []) := by
  obtain ⟨hl, hC, hxW, hxZ, hX, hbl, hL0⟩ := C
  obtain ⟨A, P, Gs, cy, X, hR, hc, hK, hNS, h7, h6, hcy⟩ := V
  have hx := hC.1
  have hb := hC.2.1
  have hbA : ¬ s.heap.size ≤ b := by omega
  have f00 := hc.1.1.1
  refine m_aload_n hx hb hL dL_law_675 rfl ?_
  refine m_aload_n hx hb hL dL_law_676 rfl ?_
  refine m_iload hx hb hL dL_law_677 rfl ?_
  refine lv_iconst (v := iv 1) hx hb dL_law_679 rfl ?_
  refine m_iadd hx hb dL_law_680 ?_
  refine l_sld hx hb hX hbl hbA X.2.1 hL0 (i := (i + 1)) (by omega) (by omega) dL_law_681 ?_
  refine m_aload_n hx hb hL dL_law_682 rfl ?_
  refine x_callH hC hxW hxZ X (k_L_work hl hc hK hNS h7 (sx_rng xs (i + 1))) HL_98 rfl ⟨by decide, by decide⟩ ⟨by show 52 + 4 * n + _ ≤ 601024; omega, by show 19628 + 33 * n + _ ≤ 7293000; omega⟩ hL.1 rfl (Nat.le_of_ble_eq_true rfl) dL_law_683 (fun v1 μ1 z1 H locs hp X => ?_)
  obtain ⟨rfl, -, ⟨P2, G2, cy2, hK2, hc2, hcy2⟩, hw, hNS2, ho⟩ := hp
  have hR := RR_w hR hw
  have s72 : sh μ1 7 = some (.inr (2, 1)) := by rw [hw.1 7 n7]; exact h7
  refine m_istore hx hb hL dL_law_686 (Nat.le_of_ble_eq_true rfl) (fun ls hL => ?_)
  refine m_aload_n hx hb hL dL_law_688 rfl ?_
  refine m_aload_n hx hb hL dL_law_689 rfl ?_
  refine m_iload hx hb hL dL_law_690 rfl ?_
  refine lv_iconst (v := iv 1) hx hb dL_law_692 rfl ?_
  refine m_iadd hx hb dL_law_693 ?_
  refine l_sld hx hb hX hbl hbA X.2.1 hL0 (i := (i + 1)) (by omega) (by omega) dL_law_694 ?_
  refine m_callV hC X (k_X6_work hR hK.1.1 hK (sx_rg xs (i + 1))) VL_100 hR.1 rfl ⟨by decide, by decide⟩ ⟨by show _ ≤ 601024; omega, by show _ ≤ 7293000; omega⟩ hL.1 rfl (Nat.le_of_ble_eq_true rfl) dL_law_695 (fun v2 μ2 z2 H locs hp X => ?_)
  obtain ⟨rfl, hz_, hR, hf⟩ := hp
  have hz_ := hz_.symm
  subst hz_
  have hc2 := rfr_CR hf hc2
  have hNS2 := NS.fr hNS2 hf.1 rfl
  have s72 := (hf.1 7).trans s72
  have ho := fun q => (hf.2.2.1 7 0).trans (ho q)
  refine m_istore hx hb hL dL_law_698 (Nat.le_of_ble_eq_true rfl) (fun ls hL => ?_)
  refine m_aload_n hx hb hL dL_law_700 rfl ?_
  refine m_callV hC X (k_X6_thrown hR hK2.1.1) VL_66 hR.1 rfl ⟨by decide, by decide⟩ ⟨by show _ ≤ 601024; omega, by show _ ≤ 7293000; omega⟩ hL.1 rfl (Nat.le_of_ble_eq_true rfl) dL_law_701 (fun v3 μ3 z3 H locs hp X => ?_)
  obtain ⟨rfl, hz_, hR, hf⟩ := hp
  have hz_ := hz_.symm
  subst hz_
  have hc2 := rfr_CR hf hc2
  have hNS2 := NS.fr hNS2 hf.1 rfl
  have s72 := (hf.1 7).trans s72
  have ho := fun q => (hf.2.2.1 7 0).trans (ho q)
  refine m_iload hx hb hL dL_law_704 rfl ?_
  refine lv_icmp_eq (tgt := 711) hx hb dL_law_706 (by decide) (fun _ => ?_) (fun q => absurd rfl q)
  refine m_iload hx hb hL dL_law_711 rfl ?_
  have b0 := hK2.1.1.b0 0
  refine m_if_ne (tgt := 728) hx hb dL_law_713 (by decide) (by omega) (fun _ => ?_) (fun c0 => ?_)
  · refine lv_goto (tgt := 837) hx hb dL_law_728 (by decide) ?_
    refine W_widen (k := 52 + 4 * (n + 1)) (n := 19628 + 33 * (n + 1)) (by omega) (by omega) ?_
    have t6 : (rWork A (sx xs (i + 1))) 6 0 ≤ A 6 0 + 1 := by rw [wk_6]; omega
    exact K _ _ _ _ _ ls ⟨(rWork A (sx xs (i + 1))), P2, G2, cy2, X, hR, hc2, hK2, hNS2, s72, by omega, by omega⟩ (lq_none 5 (lq_none 6 hL))
  · have ho := ho c0
    refine m_aload_n hx hb hL dL_law_716 rfl ?_
    refine lv_iconst (v := iv 0) hx hb dL_law_717 rfl ?_
    refine m_lald (n := 1) (i := 0) hC X s72 (by decide +kernel) (by decide) (by decide) ho dL_law_718 ?_
    refine m_iload hx hb hL dL_law_719 rfl ?_
    refine lv_i2l (v := (iv (rWorkV A (sx xs (i + 1)))).toInt64) hx hb dL_law_721 rfl ?_
    refine l_lcmp hx hb dL_law_722 ?_
    refine m_if_eq (x := 0) (tgt := 728) hx hb dL_law_723 (by decide) (by omega) (fun _ => ?_) (fun q => absurd rfl q)
    refine lv_goto (tgt := 837) hx hb dL_law_728 (by decide) ?_
    refine W_widen (k := 52 + 4 * (n + 1)) (n := 19628 + 33 * (n + 1)) (by omega) (by omega) ?_
    have t6 : (rWork A (sx xs (i + 1))) 6 0 ≤ A 6 0 + 1 := by rw [wk_6]; omega
    exact K _ _ _ _ _ ls ⟨(rWork A (sx xs (i + 1))), P2, G2, cy2, X, hR, hc2, hK2, hNS2, s72, by omega, by omega⟩ (lq_none 5 (lq_none 6 hL))
set_option maxHeartbeats 4000000 in
theorem l_collect {G : mG} {p : Program} {l : Launch} {e : Env} {c : Code} {s : State} {m : MethodId} {args : Array Value} {below : List Frame} {meth : Method} {Q : State → Prop} {b L : Nat} {xs : Nat → Int32} {ρ : Nat → Nat} {n : Nat} {i : Int} {μ : mM} {z : Nat} {H : Heap} {locs : List Loc} {ls : Array Slot} (C : LC G p l c s m args b L xs) (hn : n < 512) (hi : 0 ≤ i ∧ i + 4 ≤ (L : Int)) (V : LV G s ρ n μ z H locs) (hL : lq ls [some (.ref b), some (.ref (ρ 0)), some (.ref (ρ 6)), some (.ref (ρ 7)), some (.int (iv i)), none, none])
    (K : ∀ (ρ : Nat → Nat) (μ : mM) (z : Nat) (H : Heap) (locs : List Loc) (ls : Array Slot), LV G s ρ (n + 1) μ z H locs → lq ls [some (.ref b), some (.ref (ρ 0)), some (.ref (ρ 6)), some (.ref (ρ 7)), some (.int (iv i)), none, none] → W p l e (rm 12 434 601024 7293000) s m args below meth c H locs (52 + 4 * (n + 1)) (19628 + 33 * (n + 1)) Q (F0 m 837 ls [])) : W p l e (rm 12 434 601024 7293000) s m args below meth c H locs (52 + 4 * n) (19628 + 33 * n) Q (F0 m 731 ls []) := by
  obtain ⟨hl, hC, hxW, hxZ, hX, hbl, hL0⟩ := C
  obtain ⟨A, P, Gs, cy, X, hR, hc, hK, hNS, h7, h6, hcy⟩ := V
  have hx := hC.1
  have hb := hC.2.1
  have hbA : ¬ s.heap.size ≤ b := by omega
  have f00 := hc.1.1.1
  refine m_aload_n hx hb hL dL_law_731 rfl ?_
  refine m_callV hC X (k_X5_collect hc hK (by omega)) VL_101 f00 rfl ⟨by decide, by decide⟩ ⟨by show _ ≤ 601024; omega, by show _ ≤ 7293000; omega⟩ hL.1 rfl (Nat.le_of_ble_eq_true rfl) dL_law_732 (fun v1 μ1 z1 H locs hp X => ?_)
  obtain ⟨rfl, hz_, hc2, hf⟩ := hp
  have hz_ := hz_.symm
  subst hz_
  have hK2 := (whole_KK (KK_0 (v := 0) hK (by omega))).1
  obtain ⟨cy2, eC⟩ : ∃ cy2, cy2 = cy + 1 := ⟨_, rfl⟩
  rw [← eC] at hc2
  have hcy2 : cy2 ≤ cy + 1 := by omega
  obtain ⟨P2, eP⟩ : ∃ P2, P2 = pWhole (up A 0 0 0) P := ⟨_, rfl⟩
  rw [← eP] at hc2 hK2
  obtain ⟨G2, eG⟩ : ∃ G2, G2 = rch (rFin (up A 0 0 0)) := ⟨_, rfl⟩
  rw [← eG] at hK2
  have hNS2 : NS (rCollect A) μ1 := NS.fr hNS hf.1 co_6
  have s72 := (hf.1 7).trans h7
  have hR := RR_c hR hf
  refine m_aload_n hx hb hL dL_law_735 rfl ?_
  refine m_callV hC X (k_X6_collect hR hK.1.1 hK) VL_104 hR.1 rfl ⟨by decide, by decide⟩ ⟨by show _ ≤ 601024; omega, by show _ ≤ 7293000; omega⟩ hL.1 rfl (Nat.le_of_ble_eq_true rfl) dL_law_736 (fun v2 μ2 z2 H locs hp X => ?_)
  obtain ⟨rfl, hz_, hR, hf⟩ := hp
  have hz_ := hz_.symm
  subst hz_
  have hc2 := rfr_CR hf hc2
  have hNS2 := NS.fr hNS2 hf.1 rfl
  have s72 := (hf.1 7).trans s72
  refine lv_icmp_eq (tgt := 837) hx hb dL_law_739 (by decide) (fun _ => ?_) (fun q => absurd rfl q)
  refine W_widen (k := 52 + 4 * (n + 1)) (n := 19628 + 33 * (n + 1)) (by omega) (by omega) ?_
  have t6 : (rCollect A) 6 0 ≤ A 6 0 + 1 := by rw [co_6]; omega
  exact K _ _ _ _ _ ls ⟨(rCollect A), P2, G2, cy2, X, hR, hc2, hK2, hNS2, s72, by omega, by omega⟩ hL
set_option maxHeartbeats 4000000 in
theorem l_region {G : mG} {p : Program} {l : Launch} {e : Env} {c : Code} {s : State} {m : MethodId} {args : Array Value} {below : List Frame} {meth : Method} {Q : State → Prop} {b L : Nat} {xs : Nat → Int32} {ρ : Nat → Nat} {n : Nat} {i : Int} {μ : mM} {z : Nat} {H : Heap} {locs : List Loc} {ls : Array Slot} (C : LC G p l c s m args b L xs) (hn : n < 512) (hi : 0 ≤ i ∧ i + 4 ≤ (L : Int)) (V : LV G s ρ n μ z H locs) (hL : lq ls [some (.ref b), some (.ref (ρ 0)), some (.ref (ρ 6)), some (.ref (ρ 7)), some (.int (iv i)), none, none])
    (K : ∀ (ρ : Nat → Nat) (μ : mM) (z : Nat) (H : Heap) (locs : List Loc) (ls : Array Slot), LV G s ρ (n + 1) μ z H locs → lq ls [some (.ref b), some (.ref (ρ 0)), some (.ref (ρ 6)), some (.ref (ρ 7)), some (.int (iv i)), none, none] → W p l e (rm 12 434 601024 7293000) s m args below meth c H locs (52 + 4 * (n + 1)) (19628 + 33 * (n + 1)) Q (F0 m 837 ls [])) : W p l e (rm 12 434 601024 7293000) s m args below meth c H locs (52 + 4 * n) (19628 + 33 * n) Q (F0 m 744 ls []) := by
  obtain ⟨hl, hC, hxW, hxZ, hX, hbl, hL0⟩ := C
  obtain ⟨A, P, Gs, cy, X, hR, hc, hK, hNS, h7, h6, hcy⟩ := V
  have hx := hC.1
  have hb := hC.2.1
  have hbA : ¬ s.heap.size ≤ b := by omega
  have f00 := hc.1.1.1
  refine m_aload_n hx hb hL dL_law_744 rfl ?_
  refine m_aload_n hx hb hL dL_law_745 rfl ?_
  refine m_iload hx hb hL dL_law_746 rfl ?_
  refine lv_iconst (v := iv 1) hx hb dL_law_748 rfl ?_
  refine m_iadd hx hb dL_law_749 ?_
  refine l_sld hx hb hX hbl hbA X.2.1 hL0 (i := (i + 1)) (by omega) (by omega) dL_law_750 ?_
  refine m_aload_n hx hb hL dL_law_751 rfl ?_
  refine m_iload hx hb hL dL_law_752 rfl ?_
  refine lv_iconst (v := iv 2) hx hb dL_law_754 rfl ?_
  refine m_iadd hx hb dL_law_755 ?_
  refine l_sld hx hb hX hbl hbA X.2.1 hL0 (i := (i + 2)) (by omega) (by omega) dL_law_756 ?_
  refine m_aload_n hx hb hL dL_law_757 rfl ?_
  refine x_callH hC hxW hxZ X (k_L_region hl hc hK hNS h7 (sx_rng xs (i + 1)) (sx_rng xs (i + 2))) HL_105 rfl ⟨by decide, by decide⟩ ⟨by show 52 + 4 * n + _ ≤ 601024; omega, by show 19628 + 33 * n + _ ≤ 7293000; omega⟩ hL.1 rfl (Nat.le_of_ble_eq_true rfl) dL_law_758 (fun v1 μ1 z1 H locs hp X => ?_)
  obtain ⟨rfl, -, ⟨P2, G2, cy2, hK2, hc2, hcy2⟩, hw, hNS2, ho⟩ := hp
  have hR := RR_w hR hw
  have s72 : sh μ1 7 = some (.inr (2, 1)) := by rw [hw.1 7 n7]; exact h7
  refine m_istore hx hb hL dL_law_761 (Nat.le_of_ble_eq_true rfl) (fun ls hL => ?_)
  refine m_aload_n hx hb hL dL_law_763 rfl ?_
  refine m_aload_n hx hb hL dL_law_764 rfl ?_
  refine m_iload hx hb hL dL_law_765 rfl ?_
  refine lv_iconst (v := iv 1) hx hb dL_law_767 rfl ?_
  refine m_iadd hx hb dL_law_768 ?_
  refine l_sld hx hb hX hbl hbA X.2.1 hL0 (i := (i + 1)) (by omega) (by omega) dL_law_769 ?_
  refine m_aload_n hx hb hL dL_law_770 rfl ?_
  refine m_iload hx hb hL dL_law_771 rfl ?_
  refine lv_iconst (v := iv 2) hx hb dL_law_773 rfl ?_
  refine m_iadd hx hb dL_law_774 ?_
  refine l_sld hx hb hX hbl hbA X.2.1 hL0 (i := (i + 2)) (by omega) (by omega) dL_law_775 ?_
  refine m_callV hC X (k_X6_region hR hK.1.1 (sx_rg xs (i + 1)) (sx_rg xs (i + 2))) VL_107 hR.1 rfl ⟨by decide, by decide⟩ ⟨by show _ ≤ 601024; omega, by show _ ≤ 7293000; omega⟩ hL.1 rfl (Nat.le_of_ble_eq_true rfl) dL_law_776 (fun v2 μ2 z2 H locs hp X => ?_)
  obtain ⟨rfl, hz_, hR, hf⟩ := hp
  have hz_ := hz_.symm
  subst hz_
  have hc2 := rfr_CR hf hc2
  have hNS2 := NS.fr hNS2 hf.1 rfl
  have s72 := (hf.1 7).trans s72
  have ho := fun q => (hf.2.2.1 7 0).trans (ho q)
  refine m_istore hx hb hL dL_law_779 (Nat.le_of_ble_eq_true rfl) (fun ls hL => ?_)
  refine m_aload_n hx hb hL dL_law_781 rfl ?_
  refine m_callV hC X (k_X6_thrown hR hK2.1.1) VL_66 hR.1 rfl ⟨by decide, by decide⟩ ⟨by show _ ≤ 601024; omega, by show _ ≤ 7293000; omega⟩ hL.1 rfl (Nat.le_of_ble_eq_true rfl) dL_law_782 (fun v3 μ3 z3 H locs hp X => ?_)
  obtain ⟨rfl, hz_, hR, hf⟩ := hp
  have hz_ := hz_.symm
  subst hz_
  have hc2 := rfr_CR hf hc2
  have hNS2 := NS.fr hNS2 hf.1 rfl
  have s72 := (hf.1 7).trans s72
  have ho := fun q => (hf.2.2.1 7 0).trans (ho q)
  refine m_iload hx hb hL dL_law_785 rfl ?_
  refine lv_icmp_eq (tgt := 792) hx hb dL_law_787 (by decide) (fun _ => ?_) (fun q => absurd rfl q)
  refine m_iload hx hb hL dL_law_792 rfl ?_
  have b0 := hK2.1.1.b0 0
  refine m_if_ne (tgt := 809) hx hb dL_law_794 (by decide) (by omega) (fun _ => ?_) (fun c0 => ?_)
  · refine lv_goto (tgt := 837) hx hb dL_law_809 (by decide) ?_
    refine W_widen (k := 52 + 4 * (n + 1)) (n := 19628 + 33 * (n + 1)) (by omega) (by omega) ?_
    have t6 : (up A 0 0 (if 0 ≤ (sx xs (i + 1)) ∧ (sx xs (i + 1)) < A 1 0 then 0 else 1)) 6 0 ≤ A 6 0 + 1 := by rw [up_k _ _ (by decide)]; omega
    exact K _ _ _ _ _ ls ⟨(up A 0 0 (if 0 ≤ (sx xs (i + 1)) ∧ (sx xs (i + 1)) < A 1 0 then 0 else 1)), P2, G2, cy2, X, hR, hc2, hK2, hNS2, s72, by omega, by omega⟩ (lq_none 5 (lq_none 6 hL))
  · have ho := ho c0
    refine m_aload_n hx hb hL dL_law_797 rfl ?_
    refine lv_iconst (v := iv 0) hx hb dL_law_798 rfl ?_
    refine m_lald (n := 1) (i := 0) hC X s72 (by decide +kernel) (by decide) (by decide) ho dL_law_799 ?_
    refine m_iload hx hb hL dL_law_800 rfl ?_
    refine lv_i2l (v := (iv (rRegionV A (sx xs (i + 1)) (sx xs (i + 2)))).toInt64) hx hb dL_law_802 rfl ?_
    refine l_lcmp hx hb dL_law_803 ?_
    refine m_if_eq (x := 0) (tgt := 809) hx hb dL_law_804 (by decide) (by omega) (fun _ => ?_) (fun q => absurd rfl q)
    refine lv_goto (tgt := 837) hx hb dL_law_809 (by decide) ?_
    refine W_widen (k := 52 + 4 * (n + 1)) (n := 19628 + 33 * (n + 1)) (by omega) (by omega) ?_
    have t6 : (up A 0 0 (if 0 ≤ (sx xs (i + 1)) ∧ (sx xs (i + 1)) < A 1 0 then 0 else 1)) 6 0 ≤ A 6 0 + 1 := by rw [up_k _ _ (by decide)]; omega
    exact K _ _ _ _ _ ls ⟨(up A 0 0 (if 0 ≤ (sx xs (i + 1)) ∧ (sx xs (i + 1)) < A 1 0 then 0 else 1)), P2, G2, cy2, X, hR, hc2, hK2, hNS2, s72, by omega, by omega⟩ (lq_none 5 (lq_none 6 hL))
set_option maxHeartbeats 4000000 in
theorem l_count {G : mG} {p : Program} {l : Launch} {e : Env} {c : Code} {s : State} {m : MethodId} {args : Array Value} {below : List Frame} {meth : Method} {Q : State → Prop} {b L : Nat} {xs : Nat → Int32} {ρ : Nat → Nat} {n : Nat} {i : Int} {μ : mM} {z : Nat} {H : Heap} {locs : List Loc} {ls : Array Slot} (C : LC G p l c s m args b L xs) (hn : n < 512) (hi : 0 ≤ i ∧ i + 4 ≤ (L : Int)) (V : LV G s ρ n μ z H locs) (hL : lq ls [some (.ref b), some (.ref (ρ 0)), some (.ref (ρ 6)), some (.ref (ρ 7)), some (.int (iv i)), none, none])
    (K : ∀ (ρ : Nat → Nat) (μ : mM) (z : Nat) (H : Heap) (locs : List Loc) (ls : Array Slot), LV G s ρ (n + 1) μ z H locs → lq ls [some (.ref b), some (.ref (ρ 0)), some (.ref (ρ 6)), some (.ref (ρ 7)), some (.int (iv i)), none, none] → W p l e (rm 12 434 601024 7293000) s m args below meth c H locs (52 + 4 * (n + 1)) (19628 + 33 * (n + 1)) Q (F0 m 837 ls [])) : W p l e (rm 12 434 601024 7293000) s m args below meth c H locs (52 + 4 * n) (19628 + 33 * n) Q (F0 m 812 ls []) := by
  obtain ⟨hl, hC, hxW, hxZ, hX, hbl, hL0⟩ := C
  obtain ⟨A, P, Gs, cy, X, hR, hc, hK, hNS, h7, h6, hcy⟩ := V
  have hx := hC.1
  have hb := hC.2.1
  have hbA : ¬ s.heap.size ≤ b := by omega
  have f00 := hc.1.1.1
  refine m_aload_n hx hb hL dL_law_812 rfl ?_
  refine m_aload_n hx hb hL dL_law_813 rfl ?_
  refine m_iload hx hb hL dL_law_814 rfl ?_
  refine lv_iconst (v := iv 1) hx hb dL_law_816 rfl ?_
  refine m_iadd hx hb dL_law_817 ?_
  refine l_sld hx hb hX hbl hbA X.2.1 hL0 (i := (i + 1)) (by omega) (by omega) dL_law_818 ?_
  refine m_callV hC X (k_X5_count hc hK (sx_rng xs (i + 1))) VL_108 f00 rfl ⟨by decide, by decide⟩ ⟨by show _ ≤ 601024; omega, by show _ ≤ 7293000; omega⟩ hL.1 rfl (Nat.le_of_ble_eq_true rfl) dL_law_819 (fun v1 μ1 z1 H locs hp X => ?_)
  obtain ⟨rfl, hm_, hz_⟩ := hp
  have hm_ := hm_.symm
  have hz_ := hz_.symm
  subst hm_
  subst hz_
  have hc2 := (z_CR 0).mpr hc
  have hK2 := KK_0 (v := 0) hK (by omega)
  have hNS2 : NS (up A 0 0 0) μ := NS.fr hNS (fun _ => rfl) (up_k _ _ (by decide))
  have s72 := h7
  obtain ⟨P2, eP⟩ : ∃ P2, P2 = P := ⟨_, rfl⟩
  obtain ⟨G2, eG⟩ : ∃ G2, G2 = Gs := ⟨_, rfl⟩
  obtain ⟨cy2, eC⟩ : ∃ cy2, cy2 = cy := ⟨_, rfl⟩
  rw [← eP, ← eC] at hc2
  rw [← eP, ← eG] at hK2
  have hcy2 : cy2 ≤ cy + 1 := by omega
  refine m_aload_n hx hb hL dL_law_822 rfl ?_
  refine m_aload_n hx hb hL dL_law_823 rfl ?_
  refine m_iload hx hb hL dL_law_824 rfl ?_
  refine lv_iconst (v := iv 1) hx hb dL_law_826 rfl ?_
  refine m_iadd hx hb dL_law_827 ?_
  refine l_sld hx hb hX hbl hbA X.2.1 hL0 (i := (i + 1)) (by omega) (by omega) dL_law_828 ?_
  refine m_callV hC X (k_X6_count hR hK.1.1 (sx_rg xs (i + 1))) VL_111 hR.1 rfl ⟨by decide, by decide⟩ ⟨by show _ ≤ 601024; omega, by show _ ≤ 7293000; omega⟩ hL.1 rfl (Nat.le_of_ble_eq_true rfl) dL_law_829 (fun v2 μ2 z2 H locs hp X => ?_)
  obtain ⟨rfl, hz_, hR, hf⟩ := hp
  have hz_ := hz_.symm
  subst hz_
  have hc2 := rfr_CR hf hc2
  have hNS2 := NS.fr hNS2 hf.1 rfl
  have s72 := (hf.1 7).trans s72
  refine lv_icmp_eq (tgt := 837) hx hb dL_law_832 (by decide) (fun _ => ?_) (fun q => absurd rfl q)
  refine W_widen (k := 52 + 4 * (n + 1)) (n := 19628 + 33 * (n + 1)) (by omega) (by omega) ?_
  have t6 : (up A 0 0 0) 6 0 ≤ A 6 0 + 1 := by rw [up_k _ _ (by decide)]; omega
  exact K _ _ _ _ _ ls ⟨(up A 0 0 0), P2, G2, cy2, X, hR, hc2, hK2, hNS2, s72, by omega, by omega⟩ hL
