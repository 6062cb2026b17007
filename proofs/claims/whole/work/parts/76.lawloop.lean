/-! the law: what holds at its entry, its loop, its end -/
theorem tb_inst : ∀ q ∈ mcl, Cond.instantiable q.1 q.2.2 ∈ AW := by decide +kernel
theorem mK_ex {args : Array Value} {s : State} (hts : ∀ w ∈ lw_tbl, w.before args s = true) : ∃ G : mG, mK G s := by
  have hc : ∀ c : Nat, ∃ d : ClassId × (Nat → Nat), ∀ q : vw_C, mcl[c]? = some q → u_Kn s q.1 q.2.1 q.2.2 d.1 d.2 := by
    intro c
    cases hq : mcl[c]? with
    | none => exact ⟨(0, fun _ => 0), fun q h => by cases h⟩
    | some q =>
      obtain ⟨-, -, hin, -, -⟩ := mcl_all hq
      have hi := hts _ (aw_tbl (tb_inst q (List.mem_of_getElem? hq)))
      obtain ⟨cC, iS, h⟩ := u_known hts (fun w hw => aw_tbl (hin w hw)) hi
      exact ⟨(cC, iS), fun q' h' => by cases h'; exact h⟩
  have ha : ∀ t : Nat, ∃ cA : ClassId, ArrOfT s cA (mat t) ∧ va_RA s cA (mat t) := by
    intro t
    match t with
    | 0 =>
      obtain ⟨cA, kA, comp, h1, h2, h3⟩ := Cond.arrayClass_spec (hts (.arrayClass .int) (by decide +kernel))
      exact ⟨cA, fun N z => ⟨fun k h => (by cases h), kA, h2, comp, h3⟩, h1⟩
    | 1 =>
      obtain ⟨cA, kA, comp, h1, h2, h3⟩ := Cond.arrayClass_spec (hts (.arrayClass .boolean) (by decide +kernel))
      exact ⟨cA, fun N z => ⟨fun k h => (by cases h), kA, h2, comp, h3⟩, h1⟩
    | 2 =>
      obtain ⟨cA, kA, comp, h1, h2, h3⟩ := Cond.arrayClass_spec (hts (.arrayClass .long) (by decide +kernel))
      exact ⟨cA, fun N z => ⟨fun k h => (by cases h), kA, h2, comp, h3⟩, h1⟩
    | 3 =>
      obtain ⟨comp, cA, kA, h1, h2, h3, h4, h5⟩ := Cond.arrayOver_spec (hts (.arrayOver (.object RX1)) (by decide +kernel))
      exact ⟨cA, fun N z => ⟨fun k h => (by cases h), kA, h3, comp, h4⟩, kA, comp, h3, h4, h1, h5⟩
    | n + 4 =>
      obtain ⟨comp, cA, kA, h1, h2, h3, h4, h5⟩ := Cond.arrayOver_spec (hts (.arrayOver (.object RX3)) (by decide +kernel))
      exact ⟨cA, fun N z => ⟨fun k h => (by cases h), kA, h3, comp, h4⟩, kA, comp, h3, h4, h1, h5⟩
  refine ⟨((fun c => (Classical.choose (hc c)).1, fun c => (Classical.choose (hc c)).2), fun t => Classical.choose (ha t)), ⟨fun c q hq => Classical.choose_spec (hc c) q hq, fun k q hk => ?_⟩, va_AO.of (hts (.arrayOver (.object RX1)) (by decide +kernel)), va_AO.of (hts (.arrayOver (.object RX3)) (by decide +kernel))⟩
  match k, hk with
  | 0, hk => cases hk; exact Classical.choose_spec (ha 0)
  | 1, hk => cases hk; exact Classical.choose_spec (ha 1)
  | 2, hk => cases hk; exact Classical.choose_spec (ha 2)
  | 3, hk => cases hk; exact Classical.choose_spec (ha 3)
  | 4, hk => cases hk; exact Classical.choose_spec (ha 4)
  | n + 5, hk => cases hk
theorem tb_str : ∀ k ∈ xks, Cond.stringRef RX5 k (xtx k) ∈ lw_tbl := by decide +kernel
theorem xW_of {G : mG} {args : Array Value} {s : State} (hts : ∀ w ∈ lw_tbl, w.before args s = true) (hgv : (Jvm.Cond.and given_1 narrow_1).before args s = true) (hK : mK G s) : xW s := by
  have hs := flat_of_before _ hgv
  refine ⟨⟨⟨va_Nw.of rfl (hts (.declares (Bundle.initS "java/lang/RuntimeException")) (by decide +kernel)), va_Nw.of rfl (hts (.declares (Bundle.initS "java/lang/Exception")) (by decide +kernel)), va_Nw.of rfl (hts (.declares (Bundle.initS Bundle.tN)) (by decide +kernel))⟩, va_Nw.of rfl (hts (.castable XI XI) (by decide +kernel)), va_Nw.of rfl (hts (.castable XA XA) (by decide +kernel)), va_Nw.of rfl (hts (.castable XT XT) (by decide +kernel))⟩, ⟨va_Nc.of (hs (.not (.castable XA XI)) (by decide +kernel)), va_Nc.of (hs (.not (.castable XT XI)) (by decide +kernel))⟩, fun k hk => ?_⟩
  have h5 := (hK.1.1 5 (RX5, TX5, 2) rfl).2.1
  obtain ⟨_, _, _, a, -, -, -, -, -, hev⟩ := Cond.stringRef_spec h5 (hts _ (tb_str k hk))
  exact ⟨a, vk_R.of (hts _ (tb_str k hk)) hev⟩
theorem xZ_of {args : Array Value} {s : State} (hts : ∀ w ∈ lw_tbl, w.before args s = true) (hgv : (Jvm.Cond.and given_1 narrow_1).before args s = true) : XZ (fun q => s.heap.size ≤ q) s s.heap := by
  have hs := flat_of_before _ hgv
  exact ⟨vx_Zqof (hts (.laysStatic Bundle.tN "UNASSIGNED_STACK" Bundle.steD) (by decide +kernel)) (hts (.initialized Bundle.tN) (by decide +kernel)) (hs (.isRef (.static Bundle.tN "UNASSIGNED_STACK" Bundle.steD)) (by decide +kernel)) (fun a h => Nat.not_le.mpr h),
    vx_Zqof (hts (.laysStatic Bundle.tN "SUPPRESSED_SENTINEL" Bundle.listD) (by decide +kernel)) (hts (.initialized Bundle.tN) (by decide +kernel)) (hs (.isRef (.static Bundle.tN "SUPPRESSED_SENTINEL" Bundle.listD)) (by decide +kernel)) (fun a h => Nat.not_le.mpr h)⟩
/-- where the first cells come to lie -/
def ini (h n a : Nat) : Nat := if a % 16 = 8 then h + 5 + 2 * (a / 16) else if a % 16 = 9 then h + 6 + 2 * (a / 16) else if a = 0 then h else if a = 1 then h + 1 else if a = 2 then h + 2 else if a = 4 then h + 3 else if a = 5 then h + 4 else if a = 3 then h + 5 + 2 * n else if a = 6 then h + 6 + 2 * n
  else if a = aK 3 then h + 7 + 2 * n else if a = aK 4 then h + 8 + 2 * n else if a = aK 5 then h + 9 + 2 * n else if a = aK 7 then h + 10 + 2 * n else if a = aK 8 then h + 11 + 2 * n else if a = aK 9 then h + 12 + 2 * n else if a = aK 10 then h + 13 + 2 * n else if a = aK 11 then h + 14 + 2 * n else if a = aK 12 then h + 15 + 2 * n else if a = aK 13 then h + 16 + 2 * n else if a = aK 14 then h + 17 + 2 * n else if a = aK 15 then h + 18 + 2 * n else h + 19 + 2 * n
theorem ini_r (h n r : Nat) : ini h n (aRg r) = h + 5 + 2 * r ∧ ini h n (aSt r) = h + 6 + 2 * r := by
  unfold ini aRg aSt
  rw [if_pos (by omega), if_neg (by omega), if_pos (by omega)]
  omega
theorem LV_mono {G : mG} {s : State} {ρ : Nat → Nat} {n : Nat} {μ : mM} {z : Nat} {H : Heap} {locs : List Loc} (h : LV G s ρ n μ z H locs) : LV G s ρ (n + 1) μ z H locs := by
  obtain ⟨A, P, Gs, cy, X, hR, hc, hK, hNS, h7, h6, hcy⟩ := h
  exact ⟨A, P, Gs, cy, X, hR, hc, hK, hNS, h7, by omega, by omega⟩
set_option maxHeartbeats 4000000 in
theorem law_loop {G : mG} {p : Program} {l : Launch} {e : Env} {c : Code} {s : State} {m : MethodId} {below : List Frame} {meth : Method} {b L : Nat} {xs : Nat → Int32} (C : LC G p l c s m #[Value.ref b] b L xs) (hr : meth.sig.returnType = ret) (hlk : meth.locks = false) :
    ∀ (f n : Nat) (i : Int) (ρ : Nat → Nat) (μ : mM) (z : Nat) (H : Heap) (locs : List Loc) (ls : Array Slot), 512 - n < f → n ≤ 512 → i = 2 + 4 * (n : Int) → LV G s ρ n μ z H locs → lq ls [some (.ref b), some (.ref (ρ 0)), some (.ref (ρ 6)), some (.ref (ρ 7)), some (.int (iv i)), none, none] → W p l e (rm 12 434 601024 7293000) s m #[Value.ref b] below meth c H locs (52 + 4 * n) (19628 + 33 * n) (lw_Z below #[Value.ref b] s) (F0 m 43 ls []) := by
  obtain ⟨hl, hC, hxW, hxZ, hX, hbl, hL0⟩ := id C
  have hx := hC.1
  have hb := hC.2.1
  have hbA : ¬ s.heap.size ≤ b := by omega
  intro f
  induction f with
  | zero => intro n i ρ μ z H locs ls hf; omega
  | succ f ih =>
    intro n i ρ μ z H locs ls hf hn hi V hL
    obtain ⟨A, P, Gs, cy, X, -⟩ := id V
    refine m_iload hx hb hL dL_law_43 rfl ?_
    refine m_aload_n hx hb hL dL_law_45 rfl ?_
    refine l_slen hx hb hX hbl hbA X.2.1 dL_law_46 ?_
    refine lv_iconst (v := iv 4) hx hb dL_law_47 rfl ?_
    refine m_isub hx hb dL_law_48 ?_
    refine m_icmp_gt (tgt := 843) hx hb dL_law_49 (by decide) (by omega) (by omega) (fun c49 => ?_) (fun c49 => ?_)
    · refine lv_iconst (v := 1) hx hb dL_law_843 rfl ?_
      refine va_forget X.2.1.2.2 ?_
      refine W_widen (k := 601024) (n := 7293000) (by omega) (by omega) ?_
      exact lw_ret hx hb hr hlk dL_law_844
    · have hn5 : n < 512 := by omega
      have hi4 : 0 ≤ i ∧ i + 4 ≤ (L : Int) := by omega
      have K : ∀ (ρ : Nat → Nat) (μ : mM) (z : Nat) (H : Heap) (locs : List Loc) (ls : Array Slot), LV G s ρ (n + 1) μ z H locs → lq ls [some (.ref b), some (.ref (ρ 0)), some (.ref (ρ 6)), some (.ref (ρ 7)), some (.int (iv i)), none, none] → W p l e (rm 12 434 601024 7293000) s m #[Value.ref b] below meth c H locs (52 + 4 * (n + 1)) (19628 + 33 * (n + 1)) (lw_Z below #[Value.ref b] s) (F0 m 837 ls []) := by
        intro ρ μ z H locs ls V hL
        refine m_iincv hx hb hL dL_law_837 rfl (fun ls hL => ?_)
        refine lv_goto (tgt := 43) hx hb dL_law_840 (by decide) ?_
        exact ih (n + 1) (i + 4) ρ μ z H locs ls (by omega) (by omega) (by omega) V hL
      refine m_aload_n hx hb hL dL_law_52 rfl ?_
      refine m_iload hx hb hL dL_law_53 rfl ?_
      refine l_sld hx hb hX hbl hbA X.2.1 hL0 (i := i) (by omega) (by omega) dL_law_55 ?_
      refine lv_bipush (v := iv 15) hx hb dL_law_56 (by decide +kernel) ?_
      refine lv_iand hx hb dL_law_58 ?_
      generalize (iv (sx xs i) &&& iv 15) = v
      have hsw : v.toInt = 0 ∨ v.toInt = 1 ∨ v.toInt = 2 ∨ v.toInt = 3 ∨ v.toInt = 4 ∨ v.toInt = 5 ∨ v.toInt = 6 ∨ v.toInt = 7 ∨ v.toInt = 8 ∨ v.toInt = 9 ∨ v.toInt = 10 ∨ v.toInt = 11 ∨ v.toInt = 12 ∨ (v.toInt < 0 ∨ 12 < v.toInt) := by omega
      rcases hsw with h | h | h | h | h | h | h | h | h | h | h | h | h | h
      · refine lv_tableIn (x := v) (off := 65) (tgt := 124) hx hb dL_law_59 (by omega) (by omega) (by rw [h]; decide) (by decide) ?_
        exact l_alloc C hn5 hi4 V hL K
      · refine lv_tableIn (x := v) (off := 145) (tgt := 204) hx hb dL_law_59 (by omega) (by omega) (by rw [h]; decide) (by decide) ?_
        exact l_move C hn5 hi4 V hL K
      · refine lv_tableIn (x := v) (off := 193) (tgt := 252) hx hb dL_law_59 (by omega) (by omega) (by rw [h]; decide) (by decide) ?_
        exact l_drop C hn5 hi4 V hL K
      · refine lv_tableIn (x := v) (off := 256) (tgt := 315) hx hb dL_law_59 (by omega) (by omega) (by rw [h]; decide) (by decide) ?_
        exact l_read C hn5 hi4 V hL K
      · refine lv_tableIn (x := v) (off := 336) (tgt := 395) hx hb dL_law_59 (by omega) (by omega) (by rw [h]; decide) (by decide) ?_
        exact l_write C hn5 hi4 V hL K
      · refine lv_tableIn (x := v) (off := 416) (tgt := 475) hx hb dL_law_59 (by omega) (by omega) (by rw [h]; decide) (by decide) ?_
        exact l_tag C hn5 hi4 V hL K
      · refine lv_tableIn (x := v) (off := 472) (tgt := 531) hx hb dL_law_59 (by omega) (by omega) (by rw [h]; decide) (by decide) ?_
        exact l_same C hn5 hi4 V hL K
      · refine lv_tableIn (x := v) (off := 547) (tgt := 606) hx hb dL_law_59 (by omega) (by omega) (by rw [h]; decide) (by decide) ?_
        exact l_where C hn5 hi4 V hL K
      · refine lv_tableIn (x := v) (off := 603) (tgt := 662) hx hb dL_law_59 (by omega) (by omega) (by rw [h]; decide) (by decide) ?_
        exact l_begin C hn5 hi4 V hL K
      · refine lv_tableIn (x := v) (off := 616) (tgt := 675) hx hb dL_law_59 (by omega) (by omega) (by rw [h]; decide) (by decide) ?_
        exact l_work C hn5 hi4 V hL K
      · refine lv_tableIn (x := v) (off := 672) (tgt := 731) hx hb dL_law_59 (by omega) (by omega) (by rw [h]; decide) (by decide) ?_
        exact l_collect C hn5 hi4 V hL K
      · refine lv_tableIn (x := v) (off := 685) (tgt := 744) hx hb dL_law_59 (by omega) (by omega) (by rw [h]; decide) (by decide) ?_
        exact l_region C hn5 hi4 V hL K
      · refine lv_tableIn (x := v) (off := 753) (tgt := 812) hx hb dL_law_59 (by omega) (by omega) (by rw [h]; decide) (by decide) ?_
        exact l_count C hn5 hi4 V hL K
      · refine lv_tableOut (x := v) (tgt := 837) hx hb dL_law_59 h (by decide) ?_
        refine W_widen (k := 52 + 4 * (n + 1)) (n := 19628 + 33 * (n + 1)) (by omega) (by omega) ?_
        exact K _ _ _ _ _ ls (LV_mono V) hL
