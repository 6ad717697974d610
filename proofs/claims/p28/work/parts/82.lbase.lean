/-! THE LAW'S ARRAYS AND THE MARKET: which cell stands for which number; what the law's small methods do -/
def rl (f j k : Nat) : Prop := (f = 304 ∧ j = 0 ∧ k = 0) ∨ (f = 304 ∧ j = 2 ∧ k = 3) ∨ (f = 304 ∧ j = 3 ∧ k = 4) ∨ (f = 304 ∧ j = 4 ∧ k = 5) ∨ (f = 304 ∧ 5 ≤ j ∧ j < 9 ∧ k = j + 1) ∨ (f = 320 ∧ j < 9 ∧ k = 10 + j) ∨ (f = 336 ∧ j < 44 ∧ k = 34 + j) ∨ (f = 352 ∧ j < 60 ∧ j % 6 < 4 ∧ k = 144 + 7 * (j / 6) + j % 6) ∨ (f = 352 ∧ j < 60 ∧ 4 ≤ j % 6 ∧ k = 145 + 7 * (j / 6) + j % 6) ∨ (f = 368 ∧ j < 10 ∧ k = 148 + 7 * j)
def Lr (σ : Sto) (m : Mt) : Prop := ∀ f j k, rl f j k → σ.1 f 0 j = m k
theorem rl_fun {f j k k' : Nat} (h : rl f j k) (h' : rl f j k') : k' = k := by unfold rl at h h'; omega
theorem rl_inj {f j f' j' k : Nat} (h : rl f j k) (h' : rl f' j' k) : f' = f ∧ j' = j := by unfold rl at h h'; omega
theorem rl_k {f j k : Nat} (h : rl f j k) : k < 214 ∧ k ≠ 1 ∧ k ≠ 2 ∧ ¬ (19 ≤ k ∧ k < 34) ∧ ¬ (78 ≤ k ∧ k < 144) := by unfold rl at h; omega
theorem rl_f {f j k : Nat} (h : rl f j k) : f = 304 ∨ f = 320 ∨ f = 336 ∨ f = 352 ∨ f = 368 := by unfold rl at h; omega
theorem Lr.pu {σ : Sto} {m : Mt} {f j k : Nat} {v : Int32} (h : Lr σ m) (hr : rl f j k) : Lr (up σ f 0 j v) (upd m k v) := fun f' j' k' h' => by
  by_cases e : f' = f ∧ j' = j
  · obtain ⟨rfl, rfl⟩ := e
    rw [rl_fun hr h', upd_eq, up_eq]
  · have hk : k' ≠ k := fun z => e (rl_inj hr (z ▸ h'))
    rw [upd_ne hk]
    refine Eq.trans (if_neg ?_) (h f' j' k' h')
    rintro ⟨a, b, c⟩
    exact e ⟨a, c⟩
theorem Lr.gets {σ : Sto} {m : Mt} {j : Nat} {v : Int32} (h : Lr σ m) : Lr (up σ 384 0 j v) m := fun f' j' k' h' => by
  rw [up_ne (by have := rl_f h'; omega)]
  exact h f' j' k' h'
theorem isC_L {f : Nat} (h : f = 304 ∨ f = 320 ∨ f = 336 ∨ f = 352 ∨ f = 368 ∨ f = 384) : isC f = false := by
  rcases h with rfl | rfl | rfl | rfl | rfl | rfl <;> rfl
theorem Lr.same {σ τ : Sto} {m : Mt} (h : Lr σ m) (hs : SameM σ τ) : Lr τ m := fun f j k hr => by
  rw [hs f (isC_L (by have := rl_f hr; omega))]
  exact h f j k hr
theorem Lr.fr {σ τ : Sto} {m : Mt} (h : Lr σ m) (hs : FrW 384 σ τ) : Lr τ m := fun f j k hr => by
  rw [hs.1 f (by have := rl_f hr; omega)]
  exact h f j k hr
theorem Lr.congr {σ : Sto} {m m' : Mt} (h : Lr σ m) (he : ∀ k, k < 214 → k ≠ 1 → k ≠ 2 → ¬ (19 ≤ k ∧ k < 34) → ¬ (78 ≤ k ∧ k < 144) → m k = m' k) : Lr σ m' := fun f j k hr => by
  obtain ⟨a, b, c, d, e⟩ := rl_k hr
  exact (h f j k hr).trans (he k a b c d e)
theorem rg0 : rl 304 0 0 := by unfold rl; omega
theorem rg2 : rl 304 2 3 := by unfold rl; omega
theorem rg3 : rl 304 3 4 := by unfold rl; omega
theorem rg4 : rl 304 4 5 := by unfold rl; omega
theorem rg5 {s : Nat} (h : s < 4) : rl 304 (5 + s) (6 + s) := by unfold rl; omega
theorem ri {j : Nat} (h : j < 9) : rl 320 j (10 + j) := by unfold rl; omega
theorem ri0 {i : Nat} (h : i < 3) : rl 320 (3 * i) (10 + 3 * i) := by unfold rl; omega
theorem ri1 {i : Nat} (h : i < 3) : rl 320 (3 * i + 1) (10 + 3 * i + 1) := by unfold rl; omega
theorem ri2 {i : Nat} (h : i < 3) : rl 320 (3 * i + 2) (10 + 3 * i + 2) := by unfold rl; omega
theorem rl0 {l : Nat} (h : l < 4) : rl 336 (11 * l) (34 + 11 * l) := by unfold rl; omega
theorem rlw {l w : Nat} (h : l < 4) (hw : w < 11) : rl 336 (11 * l + w) (34 + 11 * l + w) := by unfold rl; omega
theorem rn0 {n : Nat} (h : n < 10) : rl 352 (6 * n) (144 + 7 * n) := by unfold rl; omega
theorem rn1 {n : Nat} (h : n < 10) : rl 352 (6 * n + 1) (144 + 7 * n + 1) := by unfold rl; omega
theorem rn2 {n : Nat} (h : n < 10) : rl 352 (6 * n + 2) (144 + 7 * n + 2) := by unfold rl; omega
theorem rn3 {n : Nat} (h : n < 10) : rl 352 (6 * n + 3) (144 + 7 * n + 3) := by unfold rl; omega
theorem rc {n : Nat} (h : n < 10) : rl 368 n (144 + 7 * n + 4) := by unfold rl; omega
theorem rn4 {n : Nat} (h : n < 10) : rl 352 (6 * n + 4) (144 + 7 * n + 5) := by unfold rl; omega
theorem rn5 {n : Nat} (h : n < 10) : rl 352 (6 * n + 5) (144 + 7 * n + 6) := by unfold rl; omega
/-! numbers as places -/
theorem xm11 (l : Nat) : (11 : Int32) * nI l = nI (11 * l) := by rw [show (11 : Int32) = nI 11 from rfl, nI_mul]
theorem xm6 (l : Nat) : (6 : Int32) * nI l = nI (6 * l) := by rw [show (6 : Int32) = nI 6 from rfl, nI_mul]
theorem xm3 (l : Nat) : (3 : Int32) * nI l = nI (3 * l) := by rw [show (3 : Int32) = nI 3 from rfl, nI_mul]
theorem xp1 (l : Nat) : nI l + (1 : Int32) = nI (l + 1) := nI_add l 1
theorem xp2 (l : Nat) : nI l + (2 : Int32) = nI (l + 2) := nI_add l 2
theorem xp3 (l : Nat) : nI l + (3 : Int32) = nI (l + 3) := nI_add l 3
theorem xp4 (l : Nat) : nI l + (4 : Int32) = nI (l + 4) := nI_add l 4
theorem xp5 (l : Nat) : nI l + (5 : Int32) = nI (l + 5) := nI_add l 5
theorem xp6 (l : Nat) : nI l + (6 : Int32) = nI (l + 6) := nI_add l 6
theorem xp7 (l : Nat) : nI l + (7 : Int32) = nI (l + 7) := nI_add l 7
theorem xp8 (l : Nat) : nI l + (8 : Int32) = nI (l + 8) := nI_add l 8
theorem xp9 (l : Nat) : nI l + (9 : Int32) = nI (l + 9) := nI_add l 9
theorem xp10 (l : Nat) : nI l + (10 : Int32) = nI (l + 10) := nI_add l 10
theorem xp11 (l : Nat) : nI l + (11 : Int32) = nI (l + 11) := nI_add l 11
theorem xq5 (l : Nat) : (5 : Int32) + nI l = nI (5 + l) := nI_add 5 l
theorem inT9 {k : Nat} (h : k < 9) : inb (nI k) 9 = True := eq_true (inb_nI h (by decide))
theorem inT10 {k : Nat} (h : k < 10) : inb (nI k) 10 = True := eq_true (inb_nI h (by decide))
theorem inT44 {k : Nat} (h : k < 44) : inb (nI k) 44 = True := eq_true (inb_nI h (by decide))
theorem inT60 {k : Nat} (h : k < 60) : inb (nI k) 60 = True := eq_true (inb_nI h (by decide))
theorem i90 : inb (0 : Int32) 9 = True := eq_true (by decide)
theorem i91 : inb (1 : Int32) 9 = True := eq_true (by decide)
theorem i92 : inb (2 : Int32) 9 = True := eq_true (by decide)
theorem i93 : inb (3 : Int32) 9 = True := eq_true (by decide)
theorem i94 : inb (4 : Int32) 9 = True := eq_true (by decide)
theorem clN {k : Nat} (h : k < 2147483648) : (nI k).toNatClampNeg = k := nI_clamp (by omega)
/-! low -/
def lw (v n : Int32) : Int32 := (v &&& (2147483647 : Int32)) - (v &&& (2147483647 : Int32)) / n * n
theorem and_nn (v : Int32) : 0 ≤ (v &&& (2147483647 : Int32)).toInt := by
  have h : (v &&& (2147483647 : Int32)).toBitVec.msb = false := by
    rw [Int32.toBitVec_and, BitVec.msb_and]
    have : (2147483647 : Int32).toBitVec.msb = false := by decide
    rw [this, Bool.and_false]
  have e : (v &&& (2147483647 : Int32)).toInt = ((v &&& (2147483647 : Int32)).toBitVec.toNat : Int) := BitVec.toInt_eq_toNat_of_msb h
  rw [e]
  exact Int.natCast_nonneg _
theorem lw_b {v n : Int32} (hn : 0 < n.toInt) : 0 ≤ (lw v n).toInt ∧ (lw v n).toInt < n.toInt := by
  obtain ⟨x, hx⟩ : ∃ x : Int32, x = v &&& (2147483647 : Int32) := ⟨_, rfl⟩
  have hx0 : 0 ≤ x.toInt := by rw [hx]; exact and_nn v
  unfold lw
  rw [← hx]
  have h1 := thi x
  have ed := tdiv hx0 hn
  have hm : x.toInt / n.toInt * n.toInt + x.toInt % n.toInt = x.toInt := Int.ediv_mul_add_emod _ _
  have hr1 := Int.emod_nonneg x.toInt (show n.toInt ≠ 0 by omega)
  have hr2 := Int.emod_lt_of_pos x.toInt hn
  have hq : 0 ≤ x.toInt / n.toInt := Int.ediv_nonneg hx0 (by omega)
  have hqn : 0 ≤ x.toInt / n.toInt * n.toInt := Int.mul_nonneg hq (by omega)
  have em : (x / n * n).toInt = x.toInt / n.toInt * n.toInt := by
    rw [tmul] <;> rw [ed] <;> omega
  rw [tsub] <;> rw [em] <;> omega
theorem low_eq {σ : Sto} (v : Int32) {n : Int32} (hn : 0 < n.toInt) : dc_L_low v n σ = some (lw v n, σ) := by
  unfold dc_L_low lw
  rw [if_pos (fun z => by rw [z] at hn; exact absurd hn (by decide))]
theorem lw_nI {v n : Int32} {N : Nat} (hn : n = nI N) (hN : 0 < N) (hN2 : N < 2147483648) : ∃ k, k < N ∧ lw v n = nI k := by
  have e : n.toInt = N := by rw [hn, nI_toInt (by omega)]
  have h := lw_b (v := v) (n := n) (by omega)
  exact ⟨(lw v n).toNatClampNeg, by have := clI h.1; omega, nIe h.1⟩
/-! fee -/
theorem lfee_eq {σ : Sto} {s : Nat} (hs : s < 4) : dc_L_fee (nI s) σ = some (feeI s, σ) := by
  rcases (show s = 0 ∨ s = 1 ∨ s = 2 ∨ s = 3 by omega) with rfl | rfl | rfl | rfl <;> rfl
/-! the law's constants -/
def L3 (m : Mt) : Prop := Cnt m ∧ nc m ≤ 10 ∧ m 1 = 3 ∧ m 2 = 4
theorem L3.a {m : Mt} (h : L3 m) : na m = 3 := by unfold na; rw [h.2.2.1]; rfl
theorem L3.b {m : Mt} (h : L3 m) : nb m = 4 := by unfold nb; rw [h.2.2.2]; rfl
theorem lpr_eq {σ : Sto} {m : Mt} (h : Lr σ m) (hc : Cnt m) (hn : nc m ≤ 10) (l a s : Int32) (hs : (a < 0 ∧ s = 2) ∨ (¬ a < 0 ∧ a = s ∧ ¬ s = 2)) : dc_L_principals l a σ = some (pr m l s, σ) := by
  unfold dc_L_principals
  obtain ⟨h3, hn'⟩ := hc.c
  have g2 := h _ _ _ rg2
  refine wh2_it (K := fun x => some (x, σ)) (fun n x => if m (144 + 7 * n + 1) = l ∧ (s = 2 ∨ m (144 + 7 * n + 2) = s) then x + m (144 + 7 * n + 3) else x) (nc m) (by omega) (fun rec i x hi => ?_) (fun rec x => ?_) 0
  · simp (disch := omega) only [jn, i92, if_true, cl_2, g2, h3, xm6, xp1, xp2, xp3, inT60, clN, h _ _ _ (rn1 (show i < 10 by omega)), h _ _ _ (rn2 (show i < 10 by omega)), h _ _ _ (rn3 (show i < 10 by omega)), Int32.add_zero]
    rw [if_neg (by rw [nI_leI (by omega) (by omega)]; omega)]
    by_cases c1 : m (144 + 7 * i + 1) = l
    · rw [if_pos c1]
      rcases hs with ⟨c2, c3⟩ | ⟨c2, c3, c4⟩
      · rw [if_pos c2, if_pos ⟨c1, Or.inl c3⟩]
      · rw [if_neg c2]
        by_cases c5 : m (144 + 7 * i + 2) = a
        · rw [if_pos c5, if_pos ⟨c1, Or.inr (c5.trans c3)⟩]
        · rw [if_neg c5, if_neg (fun z => z.2.elim c4 (fun y => c5 (y.trans c3.symm)))]
    · rw [if_neg c1, if_neg (fun z => c1 z.1)]
  · simp (disch := omega) only [i92, if_true, cl_2, g2, h3]
    rw [if_pos (by rw [nI_leI (by omega) (by omega)]; omega)]
