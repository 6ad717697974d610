/-! THE LAW'S STEPS: what holds between them -/
/-- a loan that runs owes something -/
def Rn (m : Mt) : Prop := ∀ l, l < 4 → m (34 + 11 * l + 3) = 1 → ¬ (m (34 + 11 * l + 4) = 0 ∧ m (34 + 11 * l + 6) = 0)
theorem Rn.cg {m m' : Mt} (h : Rn m) (he : ∀ l w, l < 4 → (w = 3 ∨ w = 4 ∨ w = 6) → m' (34 + 11 * l + w) = m (34 + 11 * l + w)) : Rn m' := fun l hl => by
  rw [he l 3 hl (by omega), he l 4 hl (by omega), he l 6 hl (by omega)]
  exact h l hl
theorem Rn.one {m m' : Mt} {k : Nat} (h : Rn m) (he : ∀ l w, l < 4 → ¬ l = k → (w = 3 ∨ w = 4 ∨ w = 6) → m' (34 + 11 * l + w) = m (34 + 11 * l + w)) (hk : m' (34 + 11 * k + 3) = 1 → ¬ (m' (34 + 11 * k + 4) = 0 ∧ m' (34 + 11 * k + 6) = 0)) : Rn m' := fun l hl => by
  by_cases e : l = k
  · rw [e]; exact hk
  · rw [he l 3 hl e (by omega), he l 4 hl e (by omega), he l 6 hl e (by omega)]
    exact h l hl
def Jv (s : Nat) (σ : Sto) (Z : Zt) : Prop := RCl σ Z ∧ InvZ (200000 * s) Z ∧ Lr σ Z.1 ∧ L3 Z.1 ∧ σ.1 304 0 1 = 4 ∧ (∀ i, i < 3 → (Z.1 (10 + 3 * i)).toInt ≤ 4000 + 20000000 * s) ∧ Rn Z.1
theorem Jv.mono {s s' : Nat} {σ : Sto} {Z : Zt} (h : Jv s σ Z) (hs : s ≤ s') : Jv s' σ Z := by
  obtain ⟨h1, h2, h3, h4, h5, h6, h7⟩ := h
  exact ⟨h1, h2.mono (by omega), h3, h4, h5, fun i hi => by have := h6 i hi; omega, h7⟩
theorem Jv.same {s : Nat} {σ τ : Sto} {Z : Zt} (h : Jv s σ Z) (hr : RCl τ Z) (hs : SameM σ τ) : Jv s τ Z := by
  obtain ⟨h1, h2, h3, h4, h5, h6, h7⟩ := h
  exact ⟨hr, h2, h3.same hs, h4, by rw [hs 304 rfl]; exact h5, h6, h7⟩
/-- a step's end -/
abbrev Je (s : Nat) : Int32 × Sto → Prop := fun p => p.1 = 1 ∧ ∃ Z', Jv (s + 1) p.2 Z'
theorem je_q {s : Nat} {σ τ : Sto} {Z : Zt} (h : Jv s σ Z) (hr : RCl τ Z) (hs : SameM σ τ) : Je s (1, τ) := ⟨rfl, Z, (h.same hr hs).mono (Nat.le_succ s)⟩
theorem je_k {s : Nat} {S τ : Sto} {Z : Zt} {m E : Mt} {K : Int} (hI : InvZ (200000 * s) Z) (hm : InvM K m) (hK : K ≤ 200000 * (s + 1)) (hr : RCl τ (pushZ Z m)) (hs : SameM S τ) (hS : Lr S E) (hE : ∀ k, k < 214 → k ≠ 1 → k ≠ 2 → ¬ (19 ≤ k ∧ k < 34) → ¬ (78 ≤ k ∧ k < 144) → E k = m k) (hL : L3 m) (h1 : S.1 304 0 1 = 4) (hb : ∀ i, i < 3 → (m (10 + 3 * i)).toInt ≤ 4000 + 20000000 * (s + 1)) (hR : Rn m) : Je s (1, τ) :=
  ⟨rfl, pushZ Z m, hr, (hI.mono (by omega)).push (hm.mono (by omega)), (hS.same hs).congr hE, hL, by rw [hs 304 rfl]; exact h1, fun i hi => by have := hb i hi; show (m (10 + 3 * i)).toInt ≤ _; omega, hR⟩
theorem ok_q {A : Type} {Q : A → Prop} {f : Sto → Option (Int32 × Sto)} {Z : Zt} {r : Int32} {S : Sto} {k : Int32 → Sto → Option A} (h : Cq Z f r) (hS : RCl S Z) (kk : ∀ τ, RCl τ Z → SameM S τ → Ok Q (k r τ)) : Ok Q (bd (f S) k) := by
  obtain ⟨τ, a, b, c⟩ := h S hS
  rw [a]
  exact kk τ b c
theorem ok_k {A : Type} {Q : A → Prop} {f : Sto → Option (Int32 × Sto)} {K : Int} {Z : Zt} {r : Int32} {m : Mt} {S : Sto} {k : Int32 → Sto → Option A} (h : Ck K Z f r m) (hS : RCl S Z) (kk : ∀ τ, RCl τ (pushZ Z m) → SameM S τ → Ok Q (k r τ)) : Ok Q (bd (f S) k) := by
  obtain ⟨τ, a, b, c⟩ := h.2 S hS
  rw [a]
  exact kk τ b c
theorem ok_j01 {A : Type} {Q : A → Prop} {c : Prop} [Decidable c] {F : Int32 → Option A} (h : ∀ v, Ok Q (F v)) : Ok Q (jn F (fun k => if c then k (1 : Int32) else k (0 : Int32))) := by
  show Ok Q (if c then F 1 else F 0)
  by_cases d : c
  · rw [if_pos d]; exact h 1
  · rw [if_neg d]; exact h 0
theorem RCl_up {σ : Sto} {Z : Zt} {f j l : Nat} {v : Int32} (h : RCl σ Z) (hf : f = 304 ∨ f = 320 ∨ f = 336 ∨ f = 352 ∨ f = 368 ∨ f = 384) : RCl (up σ f j l v) Z := h.congr (SameC_up (isC_L hf))
theorem RCl_L {σ τ : Sto} {Z : Zt} (h : RCl σ Z) (hf : FrL σ τ) : RCl τ Z := h.congr hf.1
theorem lowE {n : Int32} (hn : 0 < n.toInt) {v : Int32} {σ : Sto} {A : Type} (K : Int32 → Sto → Option A) : bd (dc_L_low v n σ) K = K (lw v n) σ := bdE (low_eq v hn) K
theorem upd_comm {f : Nat → Int32} {a b : Nat} {x y : Int32} (h : a ≠ b) : upd (upd f a x) b y = upd (upd f b y) a x := funext fun k => by
  simp only [upd]
  by_cases e : k = b
  · rw [if_pos e, if_neg (by omega), if_pos e]
  · rw [if_neg e, if_neg e]
/-- a quotient rounded up, as the law writes it -/
theorem upq {a t : Int32} (ha : 0 ≤ a.toInt ∧ a.toInt ≤ 99999) (ht : 1 ≤ t.toInt ∧ t.toInt ≤ 36) : (a + t - 1) / t = if a - a / t * t ≤ 0 then a / t + 0 else a / t + 1 := by
  have z0 : (0 : Int32).toInt = 0 := rfl
  have z1 : (1 : Int32).toInt = 1 := rfl
  have e1 : (a + t).toInt = a.toInt + t.toInt := tadd (by omega) (by omega)
  have e2 : (a + t - 1).toInt = a.toInt + t.toInt - 1 := by rw [tsub] <;> rw [e1, z1] <;> omega
  have eq := tdiv (x := a) (y := t) ha.1 (by omega)
  have hm := Int.ediv_mul_add_emod a.toInt t.toInt
  have r1 := Int.emod_nonneg a.toInt (show t.toInt ≠ 0 by omega)
  have r2 := Int.emod_lt_of_pos a.toInt (show 0 < t.toInt by omega)
  have q0 : 0 ≤ a.toInt / t.toInt := Int.ediv_nonneg ha.1 (by omega)
  have q1 : a.toInt / t.toInt ≤ a.toInt := Int.ediv_le_self _ ha.1
  have m0 : 0 ≤ a.toInt / t.toInt * t.toInt := Int.mul_nonneg q0 (by omega)
  have em : (a / t * t).toInt = a.toInt / t.toInt * t.toInt := by rw [tmul] <;> rw [eq] <;> omega
  have es : (a - a / t * t).toInt = a.toInt % t.toInt := by rw [tsub] <;> rw [em] <;> omega
  have el : ((a + t - 1) / t).toInt = (a.toInt + t.toInt - 1) / t.toInt := by rw [tdiv (by omega) (by omega), e2]
  have et : a.toInt + t.toInt - 1 = (a.toInt % t.toInt + t.toInt - 1) + a.toInt / t.toInt * t.toInt := by omega
  have ef : (a.toInt + t.toInt - 1) / t.toInt = (a.toInt % t.toInt + t.toInt - 1) / t.toInt + a.toInt / t.toInt := by
    rw [et, Int.add_mul_ediv_right _ _ (by omega)]
  by_cases c : a - a / t * t ≤ 0
  · rw [if_pos c, teq, el, ef, Int32.add_zero, eq]
    rw [tle, es, z0] at c
    rw [Int.ediv_eq_zero_of_lt (by omega) (by omega)]
    omega
  · rw [if_neg c, teq, el, ef, tadd, eq, z1]
    · rw [tle, es, z0] at c
      have : (a.toInt % t.toInt + t.toInt - 1) / t.toInt = 1 := by
        rw [show a.toInt % t.toInt + t.toInt - 1 = (a.toInt % t.toInt - 1) + 1 * t.toInt by omega, Int.add_mul_ediv_right _ _ (by omega), Int.ediv_eq_zero_of_lt (by omega) (by omega)]
        rfl
      omega
    · rw [eq, z1]; omega
    · rw [eq, z1]; omega
/-- the law's missing coins -/
theorem pr_nt {m : Mt} {i l : Nat} {k c : Int32} (hc : Cnt m) (h : nc m < 60) (hi : i < 8) : pr (nt m i l k c) (nI l) 2 = pr m (nI l) 2 + c := by
  obtain ⟨n0, n1, n2, n3, -⟩ := nt_n (m := m) (l := l) (k := k) (c := c) hi
  unfold pr
  rw [nc_nt hc h, itN_succ, Nat.zero_add]
  show (if nt m i l k c (144 + 7 * nc m + 1) = nI l ∧ ((2 : Int32) = 2 ∨ nt m i l k c (144 + 7 * nc m + 2) = 2) then _ else _) = _
  rw [if_pos ⟨n1, Or.inl rfl⟩, n3]
  refine congrArg (fun z => z + c) (itN_congr fun n x _ hn => ?_)
  show (if nt m i l k c (144 + 7 * n + 1) = nI l ∧ ((2 : Int32) = 2 ∨ nt m i l k c (144 + 7 * n + 2) = 2) then x + nt m i l k c (144 + 7 * n + 3) else x) = _
  rw [nt_out (by omega) (by omega) (by omega), nt_out (by omega) (by omega) (by omega), nt_out (by omega) (by omega) (by omega)]
theorem msn_nt2 {m : Mt} {i l : Nat} {k c : Int32} (hc : Cnt m) (hf : FeOk m i l c) : msn (nt m i l k c) l = m (34 + 11 * l) - pr m (nI l) 2 - c := by
  obtain ⟨a1, a2, -, -, -⟩ := nt_hi (k := k) hc hf
  unfold msn
  rw [if_pos (a1.trans hf.2.2.2.1), a2, pr_nt hc hf.2.2.2.2.2.2 (by have := hc.a.2; have := hf.1; omega), Int32.sub_sub]
