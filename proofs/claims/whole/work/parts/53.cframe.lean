/-! which writes leave which part of the class's picture alone -/
theorem aRg_ne_aOb (r o : Nat) : aRg r ≠ aOb o := by unfold aRg aOb; omega
theorem aRg_ne_aSt (r o : Nat) : aRg r ≠ aSt o := by unfold aRg aSt; omega
theorem aRg_ne_aFd (r o : Nat) : aRg r ≠ aFd o := by unfold aRg aFd; omega
theorem aOb_ne_aSt (r o : Nat) : aOb r ≠ aSt o := by unfold aOb aSt; omega
theorem aOb_ne_aFd (r o : Nat) : aOb r ≠ aFd o := by unfold aOb aFd; omega
theorem aSt_ne_aFd (r o : Nat) : aSt r ≠ aFd o := by unfold aSt aFd; omega
theorem aRg_f {r k : Nat} (h : k < 6) : aRg r ≠ k := by unfold aRg; omega
theorem aOb_f {r k : Nat} (h : k < 6) : aOb r ≠ k := by unfold aOb; omega
theorem aSt_f {r k : Nat} (h : k < 6) : aSt r ≠ k := by unfold aSt; omega
theorem aFd_f {r k : Nat} (h : k < 6) : aFd r ≠ k := by unfold aFd; omega
theorem aRg_inj {r q : Nat} (h : aRg r = aRg q) : r = q := by unfold aRg at h; omega
theorem aOb_inj {r q : Nat} (h : aOb r = aOb q) : r = q := by unfold aOb at h; omega
theorem aSt_inj {r q : Nat} (h : aSt r = aSt q) : r = q := by unfold aSt at h; omega
theorem aFd_inj {r q : Nat} (h : aFd r = aFd q) : r = q := by unfold aFd at h; omega
theorem mi_ne {μ : mM} {a k b j : Nat} {v : Int32} (h : ¬ (b = a ∧ j = k)) : mi (setI μ a k v) b j = mi μ b j := by rw [mi_I, if_neg h]
theorem mq_ne {μ : mM} {a k b j : Nat} {v : Option Nat} (h : ¬ (b = a ∧ j = k)) : mq (setQ μ a k v) b j = mq μ b j := by rw [mq_Q, if_neg h]
theorem mi_eq {μ : mM} {a k : Nat} {v : Int32} : mi (setI μ a k v) a k = v := by rw [mi_I, if_pos ⟨rfl, rfl⟩]
theorem mq_eq {μ : mM} {a k : Nat} {v : Option Nat} : mq (setQ μ a k v) a k = v := by rw [mq_Q, if_pos ⟨rfl, rfl⟩]
section CF
variable {A : rS} {P : Nat → Prop} {cy : Int} {μ : mM} {a k : Nat} {v : Int32} {w : Option Nat}
theorem C1.I (h : C1 A μ) (h1 : ∀ r, a = aRg r → k ≠ 0) (h2 : ∀ o, a = aOb o → k ≠ 0) : C1 A (setI μ a k v) := by
  obtain ⟨x1, x2, x3, x4, x5, x6⟩ := h
  refine ⟨x1, x2, x3, x4, fun r hr => ?_, fun o ho => ?_⟩
  · obtain ⟨y1, y2, y3, y4, y5⟩ := x5 r hr
    exact ⟨y1, y2, y3, y4, by rw [mi_ne (fun q => h1 r q.1.symm q.2.symm)]; exact y5⟩
  · obtain ⟨y1, y2, y3, y4⟩ := x6 o ho
    exact ⟨y1, y2, y3, by rw [mi_ne (fun q => h2 o q.1.symm q.2.symm)]; exact y4⟩
theorem C1.Q (h : C1 A μ) (h0 : a ≠ 0) (h1 : a ≠ 1) (h2 : a = 2 → 2 ≤ k) (h5 : a ≠ 5) (h3 : ∀ r, a = aRg r → k ≠ 1) (h4 : ∀ o, a = aOb o → k ≠ 1) : C1 A (setQ μ a k w) := by
  obtain ⟨⟨x1, x2, x3⟩, ⟨y1, y2, y3⟩, ⟨z1, z2, z3⟩, z4, z5, z6⟩ := h
  refine ⟨⟨x1, by rw [mq_ne (by omega)]; exact x2, by rw [mq_ne (by omega)]; exact x3⟩, ⟨y1, by rw [mq_ne (by omega)]; exact y2, by rw [mq_ne (by omega)]; exact y3⟩, ⟨z1, by rw [mq_ne (by omega)]; exact z2, by rw [mq_ne (by omega)]; exact z3⟩, z4, fun r hr => ?_, fun o ho => ?_⟩
  · obtain ⟨u1, u2, u3, u4, u5⟩ := z5 r hr
    exact ⟨by rw [mq_ne (by omega)]; exact u1, u2, by rw [mq_ne (fun q => h3 r q.1.symm q.2.symm)]; exact u3, u4, u5⟩
  · obtain ⟨u1, u2, u3, u4⟩ := z6 o ho
    exact ⟨u1, by rw [mq_ne (fun q => h4 o q.1.symm q.2.symm)]; exact u2, u3, u4⟩
theorem C2.I (h : C2 A cy μ) (h1 : a ≠ 1) : C2 A cy (setI μ a k v) := by
  obtain ⟨x1, x2, x3, x4, x5, x6⟩ := h
  exact ⟨by rw [mi_ne (by omega)]; exact x1, by rw [mi_ne (by omega)]; exact x2, by rw [mi_ne (by omega)]; exact x3, by rw [mi_ne (by omega)]; exact x4, by rw [mi_ne (by omega)]; exact x5, by rw [mi_ne (by omega)]; exact x6⟩
theorem C2.Q (h : C2 A cy μ) : C2 A cy (setQ μ a k w) := h
theorem C3.I (h : C3 A μ) : C3 A (setI μ a k v) := h
theorem C3.Q (h : C3 A μ) (h4 : a ≠ 4) : C3 A (setQ μ a k w) := fun i hi => by rw [mq_ne (by omega)]; exact h i hi
theorem C4.I (h : C4 A μ) : C4 A (setI μ a k v) := h
theorem C4.Q (h : C4 A μ) (h4 : a ≠ 2) : C4 A (setQ μ a k w) := ⟨by rw [mq_ne (by omega)]; exact h.1, by rw [mq_ne (by omega)]; exact h.2⟩
theorem C5.I (h : C5 A μ) (h3 : a ≠ 3) : C5 A (setI μ a k v) := ⟨h.1, h.2.1, by rw [mi_ne (by omega)]; exact h.2.2.1, h.2.2.2⟩
theorem C5.Q (h : C5 A μ) (h3 : a ≠ 3) (h6 : ∀ o, a = aOb o → k ≠ 6) : C5 A (setQ μ a k w) := by
  obtain ⟨x1, x2, x3, x4, x5⟩ := h
  refine ⟨by rw [mq_ne (by omega)]; exact x1, by rw [mq_ne (by omega)]; exact x2, x3, fun i h1 h2 => ?_, fun o ho h1 => ?_⟩
  · rw [mq_ne (fun q => h6 _ q.1.symm q.2.symm)]; exact x4 i h1 h2
  · rw [mq_ne (fun q => h6 _ q.1.symm q.2.symm)]; exact x5 o ho h1
theorem C6.I (h : C6 A μ) (h6 : ∀ r, a ≠ aRg r) : C6 A (setI μ a k v) := fun r hr => by
  obtain ⟨x1, x2, ⟨q, x3, x3'⟩, p, x4, x5⟩ := h r hr
  exact ⟨by rw [mi_ne (fun e => h6 r e.1.symm)]; exact x1, by rw [mi_ne (fun e => h6 r e.1.symm)]; exact x2, ⟨q, by rw [mi_ne (fun e => h6 r e.1.symm)]; exact x3, x3'⟩, p, by rw [mi_ne (fun e => h6 r e.1.symm)]; exact x4, x5⟩
theorem C6.Q (h : C6 A μ) : C6 A (setQ μ a k w) := h
theorem C7.I (h : C7 A P μ) : C7 A P (setI μ a k v) := h
theorem C7.Q (h : C7 A P μ) (h7 : ∀ r, a ≠ aSt r) : C7 A P (setQ μ a k w) := ⟨fun r i b hr hi => by rw [mq_ne (fun q => h7 r q.1.symm)]; exact h.1 r i b hr hi, fun o ho => by rw [mq_ne (fun q => h7 _ q.1.symm)]; exact h.2 o ho⟩
theorem C8.I (h : C8 A cy μ) (h8 : ∀ o, a ≠ aOb o) : C8 A cy (setI μ a k v) := fun o ho => by
  obtain ⟨x1, x2, ⟨y, y1, y2⟩, ⟨z, z1, z2⟩, x5⟩ := h o ho
  exact ⟨x1, by rw [mi_ne (fun e => h8 o e.1.symm)]; exact x2, ⟨y, by rw [mi_ne (fun e => h8 o e.1.symm)]; exact y1, y2⟩, ⟨z, by rw [mi_ne (fun e => h8 o e.1.symm)]; exact z1, z2⟩, x5⟩
theorem C8.Q (h : C8 A cy μ) (h8 : ∀ o, a = aOb o → k ≠ 2) (h9 : ∀ o, a ≠ aFd o) : C8 A cy (setQ μ a k w) := fun o ho => by
  obtain ⟨x1, x2, x3, x4, x5⟩ := h o ho
  exact ⟨by rw [mq_ne (fun q => h8 o q.1.symm q.2.symm)]; exact x1, x2, x3, x4, fun i hi => by rw [mq_ne (fun q => h9 o q.1.symm)]; exact x5 i hi⟩
end CF
/-! sums -/
def sm (f : Nat → Int) : Nat → Int
  | 0 => 0
  | n + 1 => sm f n + f n
theorem sm_cg {f g : Nat → Int} : ∀ n : Nat, (∀ i, i < n → f i = g i) → sm f n = sm g n := by
  intro n
  induction n with
  | zero => intro _; rfl
  | succ n ih => intro h; rw [sm, sm, ih (fun i hi => h i (by omega)), h n (by omega)]
theorem sm_add {f g : Nat → Int} : ∀ n : Nat, sm (fun i => f i + g i) n = sm f n + sm g n := by
  intro n
  induction n with
  | zero => rfl
  | succ n ih => rw [sm, sm, sm, ih]; omega
theorem sm_z : ∀ n : Nat, sm (fun _ => 0) n = 0 := by
  intro n
  induction n with
  | zero => rfl
  | succ n ih => rw [sm, ih]; rfl
theorem sm_swap {g : Nat → Nat → Int} (m : Nat) : ∀ n : Nat, sm (fun i => sm (fun j => g i j) m) n = sm (fun j => sm (fun i => g i j) n) m := by
  intro n
  induction n with
  | zero => show (0 : Int) = sm (fun _ => 0) m; rw [sm_z]
  | succ n ih =>
    rw [sm, ih, ← sm_add]
    rfl
theorem sm_one {f : Nat → Int} (a : Nat) : ∀ n : Nat, (∀ i, i < n → i ≠ a → f i = 0) → sm f n = if a < n then f a else 0 := by
  intro n
  induction n with
  | zero => intro _; rfl
  | succ n ih =>
    intro h
    rw [sm, ih (fun i hi => h i (by omega))]
    by_cases e : n = a
    · rw [if_neg (by omega), if_pos (by omega), e]; omega
    · rw [h n (by omega) e]
      by_cases c : a < n
      · rw [if_pos c, if_pos (by omega)]; omega
      · rw [if_neg c, if_neg (by omega)]; rfl
/-- the reference's sum -/
theorem rSi_sm {A : rS} {r : Int} (h3 : A 3 r.toNat ≠ 0) : ∀ (f : Nat) (x n : Int), 0 ≤ x → A 6 0 < (f : Int) + x → x ≤ A 6 0 → rSi A r f x n = n + (sm (fun o => if A 7 o = r ∧ A 12 o ≠ 0 then A 9 o else 0) (nn A) - sm (fun o => if A 7 o = r ∧ A 12 o ≠ 0 then A 9 o else 0) x.toNat) := by
  intro f
  induction f with
  | zero => intro x n hx hf hl; omega
  | succ f ih =>
    intro x n hx hf hl
    rw [rSi]
    by_cases w : A 6 0 ≤ x
    · have : nn A = x.toNat := by unfold nn; omega
      rw [if_pos w, this]; omega
    · rw [if_neg w, if_neg h3, ih (x + 1) _ (by omega) (by omega) (by omega)]
      have e : (x + 1).toNat = x.toNat + 1 := by omega
      rw [e, sm]
      split <;> omega
theorem rSeenIn_sm {A : rS} (hI : RI A) {r : Int} (h3 : A 3 r.toNat ≠ 0) : rSeenIn A r = sm (fun o => if A 7 o = r ∧ A 12 o ≠ 0 then A 9 o else 0) (nn A) := by
  have h6 := hI.b6 0
  unfold rSeenIn
  rw [rSi_sm h3 700 0 0 (by omega) (by omega) (by omega)]
  show 0 + (_ - 0) = _
  omega
/-- what the class adds at a place -/
def wAt (A : rS) (μ : mM) (r k : Nat) : Int := match mq μ (aSt r) k with
  | some b => if A 12 ((b - 10) / 16) = 1 then A 9 ((b - 10) / 16) else 0
  | none => 0
theorem ob_idx (o : Nat) : (aOb o - 10) / 16 = o := by unfold aOb; omega
theorem seenWords_sm {A : rS} {P : Nat → Prop} {cy : Int} {μ : mM} (hV : Vd A) (hS : Sg A) (hPl : Pl A P) (h7 : C7 A P μ) {r : Nat} (hr : r < RN A) : sm (wAt A μ r) (A 4 r).toNat = rSeenIn A r := by
  have hI := hV.1
  have b4 := hI.b4 r
  have b1 := hI.b1 0
  by_cases h3 : A 3 r = 0
  · have e4 := hS.1 r h3
    rw [e4]
    show (0 : Int) = _
    unfold rSeenIn
    rw [rSi]
    have : A 3 (r : Int).toNat = 0 := by simpa using h3
    rw [if_pos this]
    split <;> rfl
  · rw [rSeenIn_sm hI (by simpa using h3)]
    have e1 : sm (wAt A μ r) (A 4 r).toNat = sm (fun k => sm (fun o => if mq μ (aSt r) k = some (aOb o) ∧ A 12 o ≠ 0 then A 9 o else 0) (nn A)) (A 4 r).toNat := by
      refine sm_cg _ (fun k hk => ?_)
      unfold wAt
      cases hq : mq μ (aSt r) k with
      | none => 
        show (0 : Int) = _
        rw [sm_cg (g := fun _ => 0) (nn A) (fun o _ => if_neg (fun q => by cases q.1)), sm_z]
      | some b =>
        obtain ⟨o, rfl, ho, o1, o2⟩ := h7.1 r k b hr (by omega) hq
        have hn := (hPl.1 o ho).1
        show (if A 12 ((aOb o - 10) / 16) = 1 then A 9 ((aOb o - 10) / 16) else 0) = _
        rw [ob_idx, sm_one o (nn A) (fun i _ hi => if_neg (fun q => hi (aOb_inj (Option.some.inj q.1)).symm)), if_pos hn]
        have b12 := hI.b12 o
        by_cases c : A 12 o = 1
        · rw [if_pos c, if_pos ⟨rfl, by omega⟩]
        · rw [if_neg c, if_neg (fun q => c (by omega))]
    rw [e1, sm_swap]
    refine sm_cg _ (fun o ho => ?_)
    by_cases c : A 7 o = r ∧ A 12 o ≠ 0
    · have b12 := hI.b12 o
      have b8 := hI.b8 o
      have hP := hPl.2.1 o ho (by omega)
      obtain ⟨-, -, p3⟩ := hPl.1 o hP
      have v9 := (hV.2.1 o ho).1
      have q := h7.2 o hP
      rw [c.1] at q p3
      simp only [Int.toNat_natCast] at q p3
      rw [sm_one (A 8 o).toNat _ (fun i hi hne => if_neg (fun w => ?_)), if_pos (by omega), if_pos ⟨q, c.2⟩]
      · show _ = if A 7 o = r ∧ A 12 o ≠ 0 then A 9 o else 0
        rw [if_pos c]
      · obtain ⟨o', e', -, -, e8⟩ := h7.1 r i _ hr (by omega) w.1
        rw [← aOb_inj e'] at e8
        omega
    · rw [sm_cg (g := fun _ => 0) _ (fun k hk => if_neg (fun w => ?_)), sm_z]
      · show (0 : Int) = if A 7 o = r ∧ A 12 o ≠ 0 then A 9 o else 0
        rw [if_neg c]
      · obtain ⟨o', e', -, e7, -⟩ := h7.1 r k _ hr (by omega) w.1
        rw [← aOb_inj e'] at e7
        exact c ⟨e7, w.2⟩
theorem setI_setI (μ : mM) (a k : Nat) (v w : Int32) : setI (setI μ a k v) a k w = setI μ a k w := by
  unfold setI
  congr 2
  funext b j
  by_cases e : b = a ∧ j = k
  · simp only [if_pos e]
  · simp only [if_neg e]
theorem setI_self {μ : mM} {a k : Nat} {v : Int32} (h : mi μ a k = v) : setI μ a k v = μ := by
  subst h
  obtain ⟨m1, m2, m3⟩ := μ
  unfold setI mi
  congr 2
  funext b j
  split
  · rename_i e; obtain ⟨rfl, rfl⟩ := e; rfl
  · rfl
theorem setQ_self {μ : mM} {a k : Nat} {v : Option Nat} (h : mq μ a k = v) : setQ μ a k v = μ := by
  subst h
  obtain ⟨m1, m2, m3, m4⟩ := μ
  unfold setQ mq
  congr 3
  funext b j
  split
  · rename_i e; obtain ⟨rfl, rfl⟩ := e; rfl
  · rfl
/-- what nextToMove says -/
def nextP (A : rS) (ρ : Nat → Nat) (μ : mM) (r z : Nat) : Option Value → mM → Nat → Prop := fun v μ' z' => z' = z ∧ ∃ p : Int, 0 ≤ p ∧ p ≤ 128 ∧ μ' = setI μ (aRg r) 4 (iv p) ∧ (∀ o, o < nn A → rToMove A (o : Int) = 1 → A 7 o = r → p ≤ A 8 o) ∧ ((v = some .null ∧ ∀ o, o < nn A → rToMove A (o : Int) = 1 → A 7 o ≠ r) ∨ ∃ o, o < nn A ∧ v = some (.ref (ρ (aOb o))) ∧ rToMove A (o : Int) = 1 ∧ A 7 o = r ∧ A 8 o = p)
theorem toMoveN {A : rS} {o : Nat} : rToMove A (o : Int) = 1 ↔ A 12 o ≠ 0 ∧ A 13 o = 0 ∧ A 3 (A 7 o).toNat = 4 := by rw [toMove_iff]; simp only [Int.toNat_natCast]
/-- who has to be moved stands in its region -/
theorem mov_at {A : rS} {P G : Nat → Prop} {μ : mM} (hK : KK A P G) (h7 : C7 A P μ) {o r : Nat} (ho : o < nn A) (hm : rToMove A (o : Int) = 1) (hr : A 7 o = r) : P o ∧ mq μ (aSt r) (A 8 o).toNat = some (aOb o) ∧ A 8 o + A 9 o ≤ A 4 r ∧ 0 ≤ A 8 o := by
  have b12 := hK.1.1.b12 o
  have b8 := hK.1.1.b8 o
  have hP := hK.2.2.2.2.1.2.1 o ho (by have := (toMoveN.mp hm).1; omega)
  have q := h7.2 o hP
  have p := (hK.2.2.2.2.1.1 o hP).2.2
  rw [hr] at q p
  simp only [Int.toNat_natCast] at q p
  exact ⟨hP, q, p, b8.1⟩
