/-! a note is funded -/
theorem si_bound {f : Nat → Int} {c : Int} (hc : 0 ≤ c) : ∀ {n : Nat}, (∀ k, k < n → 0 ≤ f k ∧ f k ≤ c) → 0 ≤ si f n ∧ si f n ≤ n * c
  | 0, _ => ⟨Int.le_refl _, by simp [si]⟩
  | n + 1, h => by
    have ih := si_bound hc (n := n) fun k hk => h k (by omega)
    have hn := h n (by omega)
    show 0 ≤ si f n + f n ∧ si f n + f n ≤ (n + 1 : Nat) * c
    have e : ((n + 1 : Nat) : Int) * c = n * c + c := by rw [Int.natCast_add, Int.add_mul]; simp
    omega
theorem pr_si {K : Int} {m : Mt} (h : InvM K m) (l : Int32) : (pr m l 2).toInt = siN m l ∧ 0 ≤ siN m l ∧ siN m l ≤ 5999940 := by
  have hc := h.1.c.2
  have key : ∀ k, k ≤ nc m → (itN (fun n x => if m (144 + 7 * n + 1) = l ∧ ((2 : Int32) = 2 ∨ m (144 + 7 * n + 2) = 2) then x + m (144 + 7 * n + 3) else x) 0 k 0).toInt = si (fun n => if m (144 + 7 * n + 1) = l then (m (144 + 7 * n + 3)).toInt else 0) k ∧ 0 ≤ si (fun n => if m (144 + 7 * n + 1) = l then (m (144 + 7 * n + 3)).toInt else 0) k ∧ si (fun n => if m (144 + 7 * n + 1) = l then (m (144 + 7 * n + 3)).toInt else 0) k ≤ k * 99999 := by
    intro k hk
    have hb := si_bound (f := fun n => if m (144 + 7 * n + 1) = l then (m (144 + 7 * n + 3)).toInt else 0) (c := 99999) (by decide) (n := k) fun j hj => by
      have q := (h.2.2.2.2.2.2.1 j (by omega)).2.2.2.1
      show (0 : Int) ≤ (if m (144 + 7 * j + 1) = l then (m (144 + 7 * j + 3)).toInt else 0) ∧ (if m (144 + 7 * j + 1) = l then (m (144 + 7 * j + 3)).toInt else 0) ≤ 99999
      by_cases c : m (144 + 7 * j + 1) = l
      · rw [if_pos c]; exact q
      · rw [if_neg c]; decide
    refine ⟨?_, hb⟩
    clear hb
    induction k with
    | zero => rfl
    | succ k ih =>
      have e := ih (by omega)
      have hb := si_bound (f := fun n => if m (144 + 7 * n + 1) = l then (m (144 + 7 * n + 3)).toInt else 0) (c := 99999) (by decide) (n := k) fun j hj => by
        have q := (h.2.2.2.2.2.2.1 j (by omega)).2.2.2.1
        show (0 : Int) ≤ (if m (144 + 7 * j + 1) = l then (m (144 + 7 * j + 3)).toInt else 0) ∧ (if m (144 + 7 * j + 1) = l then (m (144 + 7 * j + 3)).toInt else 0) ≤ 99999
        by_cases c : m (144 + 7 * j + 1) = l
        · rw [if_pos c]; exact q
        · rw [if_neg c]; decide
      have q := (h.2.2.2.2.2.2.1 k (by omega)).2.2.2.1
      rw [itN_succ, Nat.zero_add]
      show _ = si _ k + (if m (144 + 7 * k + 1) = l then (m (144 + 7 * k + 3)).toInt else 0)
      by_cases c : m (144 + 7 * k + 1) = l
      · simp only [c, true_or, and_self, if_true] at e ⊢
        rw [tadd] <;> omega
      · simp only [c, false_and, if_false] at e ⊢
        omega
  obtain ⟨k1, k2, k3⟩ := key (nc m) (Nat.le_refl _)
  refine ⟨k1, k2, ?_⟩
  have : siN m l ≤ (nc m : Int) * 99999 := k3
  omega
/-- the error of a funding, 0 if it's fine -/
def fe (m : Mt) (a1 a2 c : Int32) : Int32 := if ¬ isI m a1 then -1 else if ¬ isL m a2 then -1 else if c < 1 then -2 else if ¬ c ≤ 99999 then -2 else if ¬ m (34 + 11 * a2.toNatClampNeg + 3) = 0 then -4 else if msn m a2.toNatClampNeg < c then -4 else if ¬ c ≤ m (10 + 3 * a1.toNatClampNeg) then -4 else if nc m = 60 then -3 else 0
theorem fe_c {K : Int} {σ : Sto} {m : Mt} (hI : InvM K m) (h : Cla σ 0 m) (a1 a2 c : Int32) : dc_X5_fundingError 0 a1 a2 c σ = some (fe m a1 a2 c, σ) := by
  have hc := hI.1
  unfold dc_X5_fundingError fe
  rw [hasI_eq h, bd_s]
  by_cases h1 : isI m a1
  · rw [if_pos h1, if_neg (by decide), if_neg (not_not_intro h1), hasL_eq h, bd_s]
    by_cases h2 : isL m a2
    · obtain ⟨i, hi, rfl⟩ := isI_of hc h1
      obtain ⟨l, hl, rfl⟩ := isL_of hc h2
      have ha := hc.a.2
      have hb := hc.b.2
      have hcc := hc.c
      have q := h.2.2.1 l (by omega)
      rw [if_pos h2, if_neg (by decide), if_neg (not_not_intro h2), nI_clamp (by omega), nI_clamp (by omega)]
      by_cases c1 : c < 1
      · rw [if_pos c1, if_pos c1]
      · rw [if_neg c1, if_neg c1]
        by_cases c2 : c ≤ 99999
        · rw [if_pos c2, if_neg (not_not_intro c2), if_pos (inb_nI (show l < 10 by omega) (by decide)), q.2.2.2.1]
          by_cases c3 : m (34 + 11 * l + 3) = 0
          · rw [if_pos c3, if_neg (not_not_intro c3), xmsn_eq h hc hI.kin hl, bd_s]
            by_cases c4 : msn m l < c
            · rw [if_pos c4, if_pos c4]
            · rw [if_neg c4, if_neg c4, if_pos (inb_nI (show i < 8 by omega) (by decide)), (h.2.1 i (by omega)).1]
              by_cases c5 : c ≤ m (10 + 3 * i)
              · rw [if_pos c5, if_neg (not_not_intro c5), h.1.2.2.2.1, hcc.1]
                by_cases c6 : nc m = 60
                · rw [if_pos c6, c6, if_neg (by decide)]
                · rw [if_neg c6, if_pos (by rw [show (60 : Int32) = nI 60 from rfl, nI_ltI (by omega) (by omega)]; omega)]
              · rw [if_neg c5, if_pos c5]
          · rw [if_neg c3, if_pos c3]
        · rw [if_neg c2, if_pos c2]
    · rw [if_neg h2, if_pos rfl, if_pos h2]
  · rw [if_neg h1, if_pos rfl, if_pos h1]
/-- the note and the cash -/
def nt (m : Mt) (i l : Nat) (k c : Int32) : Mt := upd (upd (upd (upd (upd (upd (upd (upd (upd m (144 + 7 * nc m) (nI i)) (144 + 7 * nc m + 1) (nI l)) (144 + 7 * nc m + 2) k) (144 + 7 * nc m + 3) c) (144 + 7 * nc m + 4) c) (144 + 7 * nc m + 5) 0) (144 + 7 * nc m + 6) 0) 3 (m 3 + 1)) (10 + 3 * i) (m (10 + 3 * i) - c)
/-- the loan starts -/
def stt (m : Mt) (l : Nat) : Mt := upd (upd (upd m (34 + 11 * l + 3) 1) (34 + 11 * l + 4) (m (34 + 11 * l))) (34 + 11 * l + 5) ((m (34 + 11 * l) + m (34 + 11 * l + 2) - 1) / m (34 + 11 * l + 2))
def adn (m : Mt) (i l : Nat) (k c : Int32) : Mt := if msn (nt m i l k c) l = 0 then stt (nt m i l k c) l else nt m i l k c
theorem nt_out {m : Mt} {i l : Nat} {k c : Int32} {x : Nat} (h1 : ¬ (144 + 7 * nc m ≤ x ∧ x ≤ 144 + 7 * nc m + 6)) (h3 : x ≠ 3) (hi : x ≠ 10 + 3 * i) : nt m i l k c x = m x := by
  unfold nt
  rw [upd_ne hi, upd_ne h3, upd_ne (by omega), upd_ne (by omega), upd_ne (by omega), upd_ne (by omega), upd_ne (by omega), upd_ne (by omega), upd_ne (by omega)]
theorem nt_3 {m : Mt} {i l : Nat} {k c : Int32} : nt m i l k c 3 = m 3 + 1 := by unfold nt; rw [upd_ne (by omega), upd_eq]
theorem nt_cash {m : Mt} {i l : Nat} {k c : Int32} : nt m i l k c (10 + 3 * i) = m (10 + 3 * i) - c := by unfold nt; rw [upd_eq]
theorem nt_n {m : Mt} {i l : Nat} {k c : Int32} (hi : i < 8) : nt m i l k c (144 + 7 * nc m) = nI i ∧ nt m i l k c (144 + 7 * nc m + 1) = nI l ∧ nt m i l k c (144 + 7 * nc m + 2) = k ∧ nt m i l k c (144 + 7 * nc m + 3) = c ∧ nt m i l k c (144 + 7 * nc m + 6) = 0 := by
  unfold nt
  refine ⟨?_, ?_, ?_, ?_, ?_⟩
  · rw [upd_ne (by omega), upd_ne (by omega), upd_ne (by omega), upd_ne (by omega), upd_ne (by omega), upd_ne (by omega), upd_ne (by omega), upd_ne (by omega), upd_eq]
  · rw [upd_ne (by omega), upd_ne (by omega), upd_ne (by omega), upd_ne (by omega), upd_ne (by omega), upd_ne (by omega), upd_ne (by omega), upd_eq]
  · rw [upd_ne (by omega), upd_ne (by omega), upd_ne (by omega), upd_ne (by omega), upd_ne (by omega), upd_ne (by omega), upd_eq]
  · rw [upd_ne (by omega), upd_ne (by omega), upd_ne (by omega), upd_ne (by omega), upd_ne (by omega), upd_eq]
  · rw [upd_ne (by omega), upd_ne (by omega), upd_eq]
/-- what a fine funding means -/
def FeOk (m : Mt) (i l : Nat) (c : Int32) : Prop := i < na m ∧ l < nb m ∧ (1 ≤ c.toInt ∧ c.toInt ≤ 99999) ∧ m (34 + 11 * l + 3) = 0 ∧ c.toInt ≤ (m (34 + 11 * l)).toInt - siN m (nI l) ∧ c.toInt ≤ (m (10 + 3 * i)).toInt ∧ nc m < 60
theorem msn_int {K : Int} {m : Mt} (h : InvM K m) {l : Nat} (hl : l < nb m) (hs : m (34 + 11 * l + 3) = 0) : (msn m l).toInt = (m (34 + 11 * l)).toInt - siN m (nI l) := by
  obtain ⟨p1, p2, p3⟩ := pr_si h (nI l)
  have k1 := (h.2.2.2.2.2.1 l hl).1
  unfold msn
  rw [if_pos hs, tsub] <;> omega
theorem fe_ok {K : Int} {m : Mt} (h : InvM K m) {a1 a2 c : Int32} (h0 : fe m a1 a2 c = 0) : ∃ i l, a1 = nI i ∧ a2 = nI l ∧ FeOk m i l c := by
  unfold fe at h0
  by_cases h1 : isI m a1
  · rw [if_neg (not_not_intro h1)] at h0
    by_cases h2 : isL m a2
    · rw [if_neg (not_not_intro h2)] at h0
      obtain ⟨i, hi, rfl⟩ := isI_of h.1 h1
      obtain ⟨l, hl, rfl⟩ := isL_of h.1 h2
      have ha := h.1.a.2
      have hb := h.1.b.2
      have hcc := h.1.c.2
      rw [nI_clamp (by omega), nI_clamp (by omega)] at h0
      by_cases c1 : c < 1
      · rw [if_pos c1] at h0; exact absurd h0 (by decide)
      · rw [if_neg c1] at h0
        by_cases c2 : c ≤ 99999
        · rw [if_neg (not_not_intro c2)] at h0
          by_cases c3 : m (34 + 11 * l + 3) = 0
          · rw [if_neg (not_not_intro c3)] at h0
            by_cases c4 : msn m l < c
            · rw [if_pos c4] at h0; exact absurd h0 (by decide)
            · rw [if_neg c4] at h0
              by_cases c5 : c ≤ m (10 + 3 * i)
              · rw [if_neg (not_not_intro c5)] at h0
                by_cases c6 : nc m = 60
                · rw [if_pos c6] at h0; exact absurd h0 (by decide)
                · rw [tlt, msn_int h hl c3] at c4
                  rw [tlt, show (1 : Int32).toInt = 1 from rfl] at c1
                  rw [tle, show (99999 : Int32).toInt = 99999 from rfl] at c2
                  exact ⟨i, l, rfl, rfl, hi, hl, by omega, c3, by omega, (tle _ _).mp c5, by omega⟩
              · rw [if_pos c5] at h0; exact absurd h0 (by decide)
          · rw [if_pos c3] at h0; exact absurd h0 (by decide)
        · rw [if_pos c2] at h0; exact absurd h0 (by decide)
    · rw [if_pos h2] at h0; exact absurd h0 (by decide)
  · rw [if_pos h1] at h0; exact absurd h0 (by decide)
theorem nc_nt {m : Mt} {i l : Nat} {k c : Int32} (hc : Cnt m) (h : nc m < 60) : nc (nt m i l k c) = nc m + 1 := by
  have e3 := clI hc.2.2.1
  have t1 : (m 3 + 1).toInt = (m 3).toInt + 1 := by
    rw [tadd] <;> rw [show (1 : Int32).toInt = 1 from rfl] <;> (have := hc.2.2; omega)
  unfold nc
  rw [nt_3, tcl, t1]
  show _ = (m 3).toNatClampNeg + 1
  rw [tcl]
  have := hc.2.2.1
  omega
theorem cnt_nt {m : Mt} {i l : Nat} {k c : Int32} (hc : Cnt m) (h : nc m < 60) (hi : i < 8) : Cnt (nt m i l k c) := by
  have e3 := clI hc.2.2.1
  have t1 : (m 3 + 1).toInt = (m 3).toInt + 1 := by
    rw [tadd] <;> rw [show (1 : Int32).toInt = 1 from rfl] <;> (have := hc.2.2; omega)
  have hn : ((m 3).toNatClampNeg : Int) < 60 := Int.ofNat_lt.mpr h
  unfold Cnt
  rw [nt_3, t1, nt_out (x := 1) (by omega) (by omega) (by omega), nt_out (x := 2) (by omega) (by omega) (by omega)]
  exact ⟨hc.1, hc.2.1, by have := hc.2.2.1; omega, by omega⟩
theorem siN_nt {m : Mt} {i l : Nat} {k c : Int32} (hc : Cnt m) (h : nc m < 60) (hi : i < 8) (l2 : Nat) (hl2 : l2 < 10) (hl : l < 10) : siN (nt m i l k c) (nI l2) = siN m (nI l2) + if l2 = l then c.toInt else 0 := by
  unfold siN
  rw [nc_nt hc h]
  show si _ (nc m) + (if nt m i l k c (144 + 7 * nc m + 1) = nI l2 then (nt m i l k c (144 + 7 * nc m + 3)).toInt else 0) = _
  obtain ⟨-, q2, -, q4, -⟩ := nt_n (m := m) (l := l) (k := k) (c := c) hi
  rw [q2, q4]
  rw [si_congr (g := fun n => if m (144 + 7 * n + 1) = nI l2 then (m (144 + 7 * n + 3)).toInt else 0) fun n hn => by rw [nt_out (by omega) (by omega) (by omega), nt_out (by omega) (by omega) (by omega)]]
  by_cases e : l2 = l
  · rw [if_pos e, if_pos (by rw [e])]
  · rw [if_neg e, if_neg (by rw [nI_eq (by omega) (by omega)]; exact fun q => e q.symm)]
theorem kin_nt {m : Mt} {i l : Nat} {k c : Int32} (hc : Cnt m) (hk : Kin m) (h : nc m < 60) (hi : i < 8) (h01 : k = 0 ∨ k = 1) : Kin (nt m i l k c) := fun n hn => by
  rw [nc_nt hc h] at hn
  by_cases e : n = nc m
  · rw [e, (nt_n hi).2.2.1]; exact h01
  · rw [nt_out (by omega) (by omega) (by omega)]; exact hk n (by omega)
