/-! the first state; what the reference's calls leave alone -/
def e0 : mM := (fun _ => none, fun _ _ => 0, fun _ _ => none, fun _ _ => 0)
theorem CR_w {A : rS} {P : Nat → Prop} {cy : Int} {μ μ' : mM} (hs : ∀ a, cad a → sh μ' a = sh μ a) (hi : ∀ a k, cad a → mi μ' a k = mi μ a k) (hq : ∀ a k, cad a → mq μ' a k = mq μ a k) (h : CR A P cy μ) : CR A P cy μ' := by
  unfold CR C1 C2 C3 C4 C5 C6 C7 C8 at h ⊢
  have s_f : ∀ a, a < 6 → sh μ' a = sh μ a := fun a ha => hs a (cad_f ha)
  have i_f : ∀ a k, a < 6 → mi μ' a k = mi μ a k := fun a k ha => hi a k (cad_f ha)
  have q_f : ∀ a k, a < 6 → mq μ' a k = mq μ a k := fun a k ha => hq a k (cad_f ha)
  have s_r : ∀ r, sh μ' (aRg r) = sh μ (aRg r) := fun r => hs _ (cad_r r)
  have s_s : ∀ r, sh μ' (aSt r) = sh μ (aSt r) := fun r => hs _ (cad_s r)
  have s_o : ∀ r, sh μ' (aOb r) = sh μ (aOb r) := fun r => hs _ (cad_o r)
  have s_d : ∀ r, sh μ' (aFd r) = sh μ (aFd r) := fun r => hs _ (cad_d r)
  have i_r : ∀ r k, mi μ' (aRg r) k = mi μ (aRg r) k := fun r k => hi _ k (cad_r r)
  have i_o : ∀ r k, mi μ' (aOb r) k = mi μ (aOb r) k := fun r k => hi _ k (cad_o r)
  have q_r : ∀ r k, mq μ' (aRg r) k = mq μ (aRg r) k := fun r k => hq _ k (cad_r r)
  have q_s : ∀ r k, mq μ' (aSt r) k = mq μ (aSt r) k := fun r k => hq _ k (cad_s r)
  have q_o : ∀ r k, mq μ' (aOb r) k = mq μ (aOb r) k := fun r k => hq _ k (cad_o r)
  have q_d : ∀ r k, mq μ' (aFd r) k = mq μ (aFd r) k := fun r k => hq _ k (cad_d r)
  simp only [s_f 0 (by decide), s_f 1 (by decide), s_f 2 (by decide), s_f 3 (by decide), s_f 4 (by decide), s_f 5 (by decide), fun k => q_f 0 k (by decide), fun k => q_f 1 k (by decide), fun k => q_f 2 k (by decide), fun k => q_f 3 k (by decide), fun k => q_f 4 k (by decide), fun k => q_f 5 k (by decide), fun k => i_f 1 k (by decide), fun k => i_f 3 k (by decide), s_r, s_s, s_o, s_d, i_r, i_o, q_r, q_s, q_o, q_d]
  exact h
theorem cad_rad {a : Nat} (h : cad a) : ¬ rad a := by
  intro q
  rcases h with h | ⟨r, h⟩ | ⟨r, h⟩ | ⟨r, h⟩ | ⟨r, h⟩ <;> rcases q with q | ⟨k, q⟩
  · omega
  · unfold aK at q; omega
  · unfold aRg at h; omega
  · unfold aRg at h; unfold aK at q; omega
  · unfold aSt at h; omega
  · unfold aSt at h; unfold aK at q; omega
  · unfold aOb at h; omega
  · unfold aOb at h; unfold aK at q; omega
  · unfold aFd at h; omega
  · unfold aFd at h; unfold aK at q; omega
theorem cad_7 {a : Nat} (h : cad a) : a ≠ 7 := fun q => by
  rw [q] at h
  rcases h with h | ⟨r, h⟩ | ⟨r, h⟩ | ⟨r, h⟩ | ⟨r, h⟩
  · omega
  · unfold aRg at h; omega
  · unfold aSt at h; omega
  · unfold aOb at h; omega
  · unfold aFd at h; omega
theorem rfr_CR {A : rS} {P : Nat → Prop} {cy : Int} {μ μ' : mM} (hf : rfr μ μ') (h : CR A P cy μ) : CR A P cy μ' := CR_w (fun a _ => hf.1 a) (fun a k ha => hf.2.2.2 a k (cad_rad ha)) (fun a k _ => hf.2.1 a k) h
theorem rof_CR {A : rS} {P : Nat → Prop} {cy : Int} {μ μ' : mM} (hf : rof μ μ') (h : CR A P cy μ) : CR A P cy μ' := CR_w (fun a ha => (hf a (cad_rad ha)).1) (fun a k ha => (hf a (cad_rad ha)).2.1 k) (fun a k ha => (hf a (cad_rad ha)).2.2 k) h
theorem new7_CR {A : rS} {P : Nat → Prop} {cy : Int} {μ : mM} {x : mS} {a : Nat} (ha : ¬ cad a) (h : CR A P cy μ) : CR A P cy (newC μ a x) := CR_w (fun b hb => by rw [sh_N, if_neg (fun q => ha (by rw [← q]; exact hb))]) (fun b k hb => by rw [mi_N, if_neg (fun q => ha (by rw [← q]; exact hb))]) (fun b k hb => by rw [mq_N, if_neg (fun q => ha (by rw [← q]; exact hb))]) h
theorem new7_RR {A : rS} {μ : mM} {x : mS} (h : RR A μ) : RR A (newC μ 7 x) := by
  have nk : ∀ k, aK k ≠ 7 := fun k => by unfold aK; omega
  refine ⟨by rw [sh_N, if_neg (by decide)]; exact h.1, fun k hk => by rw [mi_N, if_neg (by decide)]; exact h.s k hk, fun k hk => ⟨by rw [mq_N, if_neg (by decide)]; exact h.q k hk, by rw [sh_N, if_neg (nk k)]; exact h.h k hk, fun i hi => by rw [mi_N, if_neg (nk k)]; exact h.a k hk hi⟩⟩
/-- the class's memory, when it is made -/
def cl0 (ν : mM) (th : Int) : mM := setQ (setQ (co0 ν th) 0 0 (some 1)) 0 1 (some 2)
abbrev b0 : mM := newC (newC (newC e0 0 (.inl 5)) 1 (.inl 0)) 2 (.inl 2)
theorem cl0_sh (ν : mM) (th : Int) (a : Nat) : sh (cl0 ν th) a = if a = 3 then some (.inl 4) else sh ν a := rfl
theorem cl0_mi (ν : mM) (th : Int) (a k : Nat) (h1 : a ≠ 1) (h3 : a ≠ 3) : mi (cl0 ν th) a k = mi ν a k := by
  unfold cl0 co0
  rw [mi_Q, mi_Q, mi_Q, mi_N, if_neg h3, mi_ne (fun q => h1 q.1), mi_Q]
theorem cl0_mq (ν : mM) (th : Int) (a k : Nat) (h0 : a ≠ 0) (h1 : a ≠ 1) (h3 : a ≠ 3) : mq (cl0 ν th) a k = mq ν a k := by
  unfold cl0 co0
  rw [mq_ne (fun q => h0 q.1), mq_ne (fun q => h0 q.1), mq_ne (fun q => h1 q.1), mq_N, if_neg h3, mq_I, mq_ne (fun q => h1 q.1)]
theorem A0_k {n th : Int} {k i : Nat} (h1 : k ≠ 1) (h2 : k ≠ 2) (h14 : k ≠ 14) : A0 n th k i = 0 := by unfold A0 r0v; rw [if_neg h1, if_neg h2, if_neg h14]
theorem A0_w {n th st : Int} (h : st ≠ 0) : rWith (A0 n th) st = -1 := Decidable.byContradiction fun q => by
  have h3 := (rWith_some q).2.2
  rw [A0_k (by decide) (by decide) (by decide)] at h3
  exact h h3.symm
theorem CR_0 {n : Nat} {th : Int} {ν : mM} (h : G2 n n b0 ν) : CR (A0 (n : Int) th) (fun _ => False) 0 (cl0 ν th) := by
  obtain ⟨⟨a1, a2, a3, a4, a5⟩, b, c, d⟩ := h
  have dd : ∀ a, a < 4 → sh ν a = sh b0 a ∧ (∀ k, mi ν a k = mi b0 a k) ∧ ∀ k, ¬ (a = 2 ∧ k < 2) → mq ν a k = mq b0 a k := fun a ha => d a (by omega) (by omega) (fun r q => aRg_f (k := a) (by omega) q.symm) (fun r q => aSt_f (k := a) (by omega) q.symm)
  have hRN : RN (A0 (n : Int) th) = n := by show ((n : Int)).toNat = n; omega
  have hnn : nn (A0 (n : Int) th) = 0 := rfl
  have g0 : ∀ r, aRg r ≠ 0 := fun r => aRg_f (by decide)
  have g1 : ∀ r, aRg r ≠ 1 := fun r => aRg_f (by decide)
  have g3 : ∀ r, aRg r ≠ 3 := fun r => aRg_f (by decide)
  have s0 : ∀ r, aSt r ≠ 0 := fun r => aSt_f (by decide)
  have s1 : ∀ r, aSt r ≠ 1 := fun r => aSt_f (by decide)
  have s3 : ∀ r, aSt r ≠ 3 := fun r => aSt_f (by decide)
  refine ⟨⟨⟨?_, rfl, rfl⟩, ⟨?_, rfl, rfl⟩, ⟨?_, ?_, ?_⟩, ⟨rfl, ?_, ?_⟩, fun r hr => ?_, fun o ho => absurd ho (by rw [hnn]; omega)⟩, ⟨rfl, ?_, ?_, ?_, ?_, ?_⟩, fun k _ => ?_, ⟨?_, ?_⟩, ⟨?_, ?_, ?_, fun i _ q => absurd q (by show ¬ ((i : Int) + 1 < 0); omega), fun o ho => absurd ho (by rw [hnn]; omega)⟩, fun r hr => ?_, ⟨fun r k b' hr _ q => ?_, fun o q => q.elim⟩, fun o ho => absurd ho (by rw [hnn]; omega), by omega, by omega⟩
  · rw [cl0_sh, if_neg (by decide), (dd 0 (by decide)).1]; rfl
  · rw [cl0_sh, if_neg (by decide), (dd 1 (by decide)).1]; rfl
  · rw [cl0_sh, if_neg (by decide), (dd 2 (by decide)).1]; rfl
  · rw [cl0_mq _ _ _ _ (by decide) (by decide) (by decide)]; exact a4
  · rw [cl0_mq _ _ _ _ (by decide) (by decide) (by decide)]; exact a5
  · rw [cl0_sh, if_neg (by decide)]; exact a1
  · rw [cl0_sh, if_neg (by decide), hRN]; exact a3
  · rw [hRN] at hr
    obtain ⟨x1, x2, x3, x4, x5, x6, x7⟩ := b r hr
    exact ⟨by rw [cl0_mq _ _ _ _ (by decide) (by decide) (by decide)]; exact x1, by rw [cl0_sh, if_neg (g3 r)]; exact x2, by rw [cl0_mq _ _ _ _ (g0 r) (g1 r) (g3 r)]; exact x3, by rw [cl0_sh, if_neg (s3 r)]; exact x4, by rw [cl0_mi _ _ _ _ (g1 r) (g3 r)]; exact x5⟩
  · rw [show mi (cl0 ν th) 1 3 = mi ν 1 3 from rfl, (dd 1 (by decide)).2.1]; rfl
  · rw [show mi (cl0 ν th) 1 4 = mi ν 1 4 from rfl, (dd 1 (by decide)).2.1]; rfl
  · rw [show mi (cl0 ν th) 1 5 = mi ν 1 5 from rfl, (dd 1 (by decide)).2.1]; rfl
  · rw [show mi (cl0 ν th) 1 6 = mi ν 1 6 from rfl, (dd 1 (by decide)).2.1]; rfl
  · rw [show mi (cl0 ν th) 1 7 = mi ν 1 7 from rfl, (dd 1 (by decide)).2.1]; rfl
  · rw [cl0_mq _ _ _ _ (by decide) (by decide) (by decide), a2]; rfl
  · rw [A0_w (by decide), cl0_mq _ _ _ _ (by decide) (by decide) (by decide), (dd 2 (by decide)).2.2 2 (by omega)]; rfl
  · rw [A0_w (by decide), cl0_mq _ _ _ _ (by decide) (by decide) (by decide), (dd 2 (by decide)).2.2 3 (by omega)]; rfl
  · rw [if_neg (by show ¬ ((0 : Int) < 0); omega)]; rfl
  · rw [if_neg (by show ¬ ((0 : Int) < 0); omega)]; rfl
  · rfl
  · rw [hRN] at hr
    obtain ⟨x1, x2, x3, x4, x5, x6, x7⟩ := b r hr
    have i_ : ∀ k, k ≠ 0 → mi (cl0 ν th) (aRg r) k = iv 0 := fun k hk => by rw [cl0_mi _ _ _ _ (g1 r) (g3 r)]; exact x6 k hk
    exact ⟨i_ 2 (by decide), i_ 3 (by decide), ⟨0, i_ 5 (by decide), Or.inl rfl, fun q => absurd q (by show ¬ ((0 : Int) = 4); omega)⟩, ⟨0, i_ 4 (by decide), by omega, by omega, fun q => absurd q (by show ¬ ((0 : Int) = 4); omega)⟩⟩
  · rw [hRN] at hr
    obtain ⟨x1, x2, x3, x4, x5, x6, x7⟩ := b r hr
    rw [cl0_mq _ _ _ _ (s0 r) (s1 r) (s3 r), x7 k] at q
    cases q
theorem RI_0 {n th : Int} (hn : 3 ≤ n ∧ n ≤ 16) (hth : 0 ≤ th ∧ th ≤ 128) : RI (A0 n th) := by
  intro k i hk
  match k, hk with
  | 0, _ => exact (show slo 0 ≤ (0 : Int) ∧ (0 : Int) ≤ shi 0 from ⟨by decide, by decide⟩)
  | 1, _ => exact hn
  | 2, _ => exact hth
  | 3, _ => exact (show slo 3 ≤ (0 : Int) ∧ (0 : Int) ≤ shi 3 from ⟨by decide, by decide⟩)
  | 4, _ => exact (show slo 4 ≤ (0 : Int) ∧ (0 : Int) ≤ shi 4 from ⟨by decide, by decide⟩)
  | 5, _ => exact (show slo 5 ≤ (0 : Int) ∧ (0 : Int) ≤ shi 5 from ⟨by decide, by decide⟩)
  | 6, _ => exact (show slo 6 ≤ (0 : Int) ∧ (0 : Int) ≤ shi 6 from ⟨by decide, by decide⟩)
  | 7, _ => exact (show slo 7 ≤ (0 : Int) ∧ (0 : Int) ≤ shi 7 from ⟨by decide, by decide⟩)
  | 8, _ => exact (show slo 8 ≤ (0 : Int) ∧ (0 : Int) ≤ shi 8 from ⟨by decide, by decide⟩)
  | 9, _ => exact (show slo 9 ≤ (0 : Int) ∧ (0 : Int) ≤ shi 9 from ⟨by decide, by decide⟩)
  | 10, _ => exact (show slo 10 ≤ (0 : Int) ∧ (0 : Int) ≤ shi 10 from ⟨by decide, by decide⟩)
  | 11, _ => exact (show slo 11 ≤ (0 : Int) ∧ (0 : Int) ≤ shi 11 from ⟨by decide, by decide⟩)
  | 12, _ => exact (show slo 12 ≤ (0 : Int) ∧ (0 : Int) ≤ shi 12 from ⟨by decide, by decide⟩)
  | 13, _ => exact (show slo 13 ≤ (0 : Int) ∧ (0 : Int) ≤ shi 13 from ⟨by decide, by decide⟩)
  | 14, _ => exact (show slo 14 ≤ (-1 : Int) ∧ (-1 : Int) ≤ shi 14 from ⟨by decide, by decide⟩)
  | 15, _ => exact (show slo 15 ≤ (0 : Int) ∧ (0 : Int) ≤ shi 15 from ⟨by decide, by decide⟩)
  | 16, _ => exact (show slo 16 ≤ (0 : Int) ∧ (0 : Int) ≤ shi 16 from ⟨by decide, by decide⟩)
  | 17, _ => exact (show slo 17 ≤ (0 : Int) ∧ (0 : Int) ≤ shi 17 from ⟨by decide, by decide⟩)
  | 18, _ => exact (show slo 18 ≤ (0 : Int) ∧ (0 : Int) ≤ shi 18 from ⟨by decide, by decide⟩)
  | 19, _ => exact (show slo 19 ≤ (0 : Int) ∧ (0 : Int) ≤ shi 19 from ⟨by decide, by decide⟩)
  | m + 20, h => omega
theorem KK_00 {n th : Int} (hn : 3 ≤ n ∧ n ≤ 16) (hth : 0 ≤ th ∧ th ≤ 128) : KK (A0 n th) (fun _ => False) (fun _ => False) := by
  have z : ∀ k i, k ≠ 1 → k ≠ 2 → k ≠ 14 → A0 n th k i = 0 := fun k i a b c => A0_k a b c
  have z3 : ∀ i, A0 n th 3 i = 0 := fun i => z 3 i (by decide) (by decide) (by decide)
  have z4 : ∀ i, A0 n th 4 i = 0 := fun i => z 4 i (by decide) (by decide) (by decide)
  have z6 : A0 n th 6 0 = 0 := z 6 0 (by decide) (by decide) (by decide)
  have z16 : A0 n th 16 0 = 0 := z 16 0 (by decide) (by decide) (by decide)
  have z17 : A0 n th 17 0 = 0 := z 17 0 (by decide) (by decide) (by decide)
  have z18 : A0 n th 18 0 = 0 := z 18 0 (by decide) (by decide) (by decide)
  have z14 : ∀ i, A0 n th 14 i = -1 := fun i => rfl
  have hnn : nn (A0 n th) = 0 := by unfold nn; rw [z6]; rfl
  refine ⟨⟨RI_0 hn hth, fun o ho => absurd ho (by omega), fun o i ho => absurd ho (by omega), fun k _ => by rw [z14, z6]; omega, by omega⟩, ⟨by omega, fun i q => absurd q (by omega), fun i j q => absurd q (by omega)⟩, ⟨fun r _ => z4 r, fun r q _ _ h => absurd h (by rw [z3]; omega), fun r q _ _ h => absurd h (by rw [z3]; omega)⟩, ⟨fun _ => by omega, fun h => absurd h (by omega), fun _ r _ => by rw [z3]; omega, fun h => absurd h (by omega), fun h => absurd h (by omega), fun h => absurd h (by omega)⟩, ⟨fun o h => h.elim, fun o ho => absurd ho (by omega), fun o q h => h.elim⟩, ⟨fun o h => h, fun k _ h => absurd h (by rw [z14]; omega), fun o i h => h.elim⟩, ⟨fun h => absurd h (by omega), fun h => absurd h (by omega)⟩⟩
theorem NS_0 {n : Nat} {th : Int} {ν : mM} (h : G2 n n b0 ν) : ∀ a, 6 ≤ a → (∀ r, a ≠ aRg r) → (∀ r, a ≠ aSt r) → sh (cl0 ν th) a = none := fun a ha hg hs => by
  rw [cl0_sh, if_neg (by omega), (h.2.2.2 a (by omega) (by omega) hg hs).1, sh_N, if_neg (by omega), sh_N, if_neg (by omega), sh_N, if_neg (by omega)]
  rfl
