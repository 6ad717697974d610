/-! the class, what only reads, out of the 564 numbers -/
theorem wh1_invs {R : Type} {b : (Int32 → Sto → Option R) → Int32 → Sto → Option R} {T : Option R → Prop} (P : Nat → Sto → Prop) (s N : Nat) (hsN : s ≤ N) (hN : N < 100000)
    (hs : ∀ (i : Nat) (σ : Sto), s ≤ i → i < N → P i σ → ∃ τ, P (i + 1) τ ∧ ∀ rec : Int32 → Sto → Option R, b rec (nI i) σ = rec (nI (i + 1)) τ) (he : ∀ (σ : Sto), P N σ → ∀ rec : Int32 → Sto → Option R, T (b rec (nI N) σ)) {x : Int32} (hx : x = nI s) {σ : Sto} (h0 : P s σ) : T (wh1 b FU x σ) := by
  have key : ∀ (k i : Nat) (σ : Sto) (f : Nat), s ≤ i → i + k = N → k < f → P i σ → T (wh1 b f (nI i) σ) := by
    intro k
    induction k with
    | zero =>
      intro i σ f hs' hi hf hP
      obtain ⟨f, rfl⟩ : ∃ z, f = z + 1 := ⟨f - 1, by omega⟩
      have : i = N := by omega
      subst this
      exact he σ hP _
    | succ k ih =>
      intro i σ f hs' hi hf hP
      obtain ⟨f, rfl⟩ : ∃ z, f = z + 1 := ⟨f - 1, by omega⟩
      obtain ⟨τ, h1, h2⟩ := hs i σ hs' (by omega) hP
      show T (b (wh1 b f) (nI i) σ)
      rw [h2]
      exact ih (i + 1) τ f (by omega) (by omega) (by omega) h1
  rw [hx]
  exact key (N - s) s σ FU (Nat.le_refl _) (by omega) (Nat.lt_of_le_of_lt (Nat.sub_le _ _) hN) h0
theorem has_x {a k : Int32} (τ : Sto) : (if a < (0 : Int32) then some ((0 : Int32), τ) else if k ≤ a then some (0, τ) else some (1, τ)) = some (if 0 ≤ a.toInt ∧ a.toInt < k.toInt then 1 else 0, τ) := by
  have h0 : (0 : Int32).toInt = 0 := rfl
  simp only [tlt, tle, h0]
  by_cases c1 : a.toInt < 0
  · rw [if_pos c1, if_neg (by omega)]
  · rw [if_neg c1]
    by_cases c2 : k.toInt ≤ a.toInt
    · rw [if_pos c2, if_neg (by omega)]
    · rw [if_neg c2, if_pos (by omega)]
theorem hasI_eq {σ : Sto} {j : Nat} {m : Mt} (h : Cla σ j m) (a : Int32) : dc_X5_hasInvestor j a σ = some (if isI m a then 1 else 0, σ) := by
  unfold dc_X5_hasInvestor
  rw [h.1.2.1, has_x]
theorem hasL_eq {σ : Sto} {j : Nat} {m : Mt} (h : Cla σ j m) (a : Int32) : dc_X5_hasLoan j a σ = some (if isL m a then 1 else 0, σ) := by
  unfold dc_X5_hasLoan
  rw [h.1.2.2.1, has_x]
theorem hasN_eq {σ : Sto} {j : Nat} {m : Mt} (h : Cla σ j m) (a : Int32) : dc_X5_hasNote j a σ = some (if isN m a then 1 else 0, σ) := by
  unfold dc_X5_hasNote
  rw [h.1.2.2.2.1, has_x]
theorem xisS_eq {σ : Sto} (a : Int32) : dc_X9_isServicer a σ = some (if 0 ≤ a.toInt ∧ a.toInt < 4 then 1 else 0, σ) := by
  unfold dc_X9_isServicer
  rw [has_x]
  rfl
theorem xr_x {a x y : Int32} (τ : Sto) : (if a < x then some ((0 : Int32), τ) else if y < a then some (0, τ) else some (1, τ)) = some (if a < x then 0 else if y < a then 0 else 1, τ) := by
  by_cases c1 : a < x
  · rw [if_pos c1, if_pos c1]
  · rw [if_neg c1, if_neg c1]
    by_cases c2 : y < a
    · rw [if_pos c2, if_pos c2]
    · rw [if_neg c2, if_neg c2]
theorem isLM_eq {σ : Sto} (a : Int32) : dc_X9_isLoanMonths a σ = some (if a < 1 then 0 else if 36 < a then 0 else 1, σ) := by unfold dc_X9_isLoanMonths; rw [xr_x]
theorem isPm_eq {σ : Sto} (a : Int32) : dc_X9_isPayment a σ = some (if a < 1 then 0 else if 199999 < a then 0 else 1, σ) := by unfold dc_X9_isPayment; rw [xr_x]
theorem isPc_eq {σ : Sto} (a : Int32) : dc_X9_isPrice a σ = some (if a < 0 then 0 else if 99999 < a then 0 else 1, σ) := by unfold dc_X9_isPrice; rw [xr_x]
theorem fee_eq {σ : Sto} {s : Nat} (hs : s < 4) : dc_X9_feeOf (nI s) σ = some (feeI s, σ) := by
  unfold dc_X9_feeOf
  have c : 0 ≤ (nI s).toInt ∧ (nI s).toInt < 4 := by rw [nI_toInt (by omega)]; omega
  rw [xisS_eq, bd_s, if_pos c, if_neg (by decide), if_pos (inb_nI hs (by decide)), nI_clamp (by omega)]
theorem mfee_eq {σ : Sto} {s : Nat} (hs : s < 4) : dc_X10_feeOf (nI s) σ = some (feeI s, σ) := by
  unfold dc_X10_feeOf
  rcases (show s = 0 ∨ s = 1 ∨ s = 2 ∨ s = 3 by omega) with rfl | rfl | rfl | rfl <;> rfl
theorem isL_nI {m : Mt} (hc : Cnt m) {l : Nat} (hl : l < nb m) : isL m (nI l) := by
  have h1 := hc.b
  have h2 := clI hc.2.1.1
  refine ⟨by rw [nI_toInt (by omega)]; omega, ?_⟩
  rw [nI_toInt (by omega), ← h2]
  exact Int.ofNat_lt.mpr hl
theorem isI_nI {m : Mt} (hc : Cnt m) {l : Nat} (hl : l < na m) : isI m (nI l) := by
  have h1 := hc.a
  have h2 := clI hc.1.1
  refine ⟨by rw [nI_toInt (by omega)]; omega, ?_⟩
  rw [nI_toInt (by omega), ← h2]
  exact Int.ofNat_lt.mpr hl
theorem isL_of {m : Mt} (hc : Cnt m) {a : Int32} (h : isL m a) : ∃ l, l < nb m ∧ a = nI l := by
  refine ⟨a.toNatClampNeg, ?_, nIe h.1⟩
  have h1 := clI h.1
  have h2 := clI hc.2.1.1
  have h3 := h.2
  show a.toNatClampNeg < (m 2).toNatClampNeg
  omega
theorem isI_of {m : Mt} (hc : Cnt m) {a : Int32} (h : isI m a) : ∃ l, l < na m ∧ a = nI l := by
  refine ⟨a.toNatClampNeg, ?_, nIe h.1⟩
  have h1 := clI h.1
  have h2 := clI hc.1.1
  have h3 := h.2
  show a.toNatClampNeg < (m 1).toNatClampNeg
  omega
theorem isN_of {m : Mt} (hc : Cnt m) {a : Int32} (h : isN m a) : ∃ l, l < nc m ∧ a = nI l := by
  refine ⟨a.toNatClampNeg, ?_, nIe h.1⟩
  have h1 := clI h.1
  have h2 := clI hc.2.2.1
  have h3 := h.2
  show a.toNatClampNeg < (m 3).toNatClampNeg
  omega
theorem xruns_eq {σ : Sto} {j : Nat} {m : Mt} (h : Cla σ j m) (hc : Cnt m) {l : Nat} (hl : l < nb m) : dc_X5_runs j (nI l) σ = some (if m (34 + 11 * l + 3) = 1 then 1 else 0, σ) := by
  have hb := hc.b.2
  unfold dc_X5_runs
  rw [hasL_eq h, bd_s, if_pos (isL_nI hc hl), if_neg (by decide), if_pos (inb_nI (show l < 10 by omega) (by decide)), nI_clamp (by omega), (h.2.2.1 l (by omega)).2.2.2.1]
  by_cases c : m (34 + 11 * l + 3) = 1 <;> simp only [c, if_true, if_false]
theorem xcash_eq {σ : Sto} {j : Nat} {m : Mt} (h : Cla σ j m) (hc : Cnt m) {l : Nat} (hl : l < na m) : dc_X5_cashOf j (nI l) σ = some (m (10 + 3 * l), σ) := by
  have hb := hc.a.2
  unfold dc_X5_cashOf
  rw [hasI_eq h, bd_s, if_pos (isI_nI hc hl), if_neg (by decide), if_pos (inb_nI (show l < 8 by omega) (by decide)), nI_clamp (by omega), (h.2.1 l (by omega)).1]
theorem xgive_eq {σ : Sto} {j : Nat} {m : Mt} (h : Cla σ j m) (hc : Cnt m) {l : Nat} {v : Int32} (hl : l < na m) : dc_X5_give j (nI l) v σ = some (up σ 48 j l (m (10 + 3 * l) + v)) := by
  have hb := hc.a.2
  unfold dc_X5_give
  rw [hasI_eq h, bd_s, if_pos (isI_nI hc hl), if_neg (by decide), if_pos (inb_nI (show l < 8 by omega) (by decide)), nI_clamp (by omega), (h.2.1 l (by omega)).1]
theorem xpr_eq {σ : Sto} {j : Nat} {m : Mt} (h : Cla σ j m) (hc : Cnt m) (l s : Int32) (hs : ¬ s = 2) : dc_X5_principals j l s σ = some (pr m l s, σ) := by
  unfold dc_X5_principals
  obtain ⟨h3, hn⟩ := hc.c
  refine wh2_it (K := fun x => some (x, σ)) (fun n x => if m (144 + 7 * n + 1) = l ∧ (s = 2 ∨ m (144 + 7 * n + 2) = s) then x + m (144 + 7 * n + 3) else x) (nc m) (by omega) (fun rec i x hi => ?_) (fun rec x => ?_) 0
  · rw [h.1.2.2.2.1, h3, if_neg (by rw [nI_leI (by omega) (by omega)]; omega)]
    have q := h.2.2.2 i (by omega)
    simp only [if_pos (inb_nI (show i < 60 by omega) (by decide)), nI_clamp (show i < 2 ^ 31 by omega), q.2.1, q.2.2.1, q.2.2.2.1, nI_1, hs, false_or]
    by_cases c1 : m (144 + 7 * i + 1) = l <;> by_cases c2 : m (144 + 7 * i + 2) = s <;> simp [c1, c2]
  · rw [h.1.2.2.2.1, h3, if_pos (by rw [nI_leI (by omega) (by omega)]; omega)]
/-- the classes of the notes -/
def Kin (m : Mt) : Prop := ∀ n, n < nc m → m (144 + 7 * n + 2) = 0 ∨ m (144 + 7 * n + 2) = 1
theorem pr2 {m : Mt} (hk : Kin m) (l : Int32) : pr m l 2 = pr m l 0 + pr m l 1 := by
  unfold pr
  have key : ∀ k, k ≤ nc m → itN (fun n x => if m (144 + 7 * n + 1) = l ∧ ((2 : Int32) = 2 ∨ m (144 + 7 * n + 2) = 2) then x + m (144 + 7 * n + 3) else x) 0 k 0 = itN (fun n x => if m (144 + 7 * n + 1) = l ∧ ((0 : Int32) = 2 ∨ m (144 + 7 * n + 2) = 0) then x + m (144 + 7 * n + 3) else x) 0 k 0 + itN (fun n x => if m (144 + 7 * n + 1) = l ∧ ((1 : Int32) = 2 ∨ m (144 + 7 * n + 2) = 1) then x + m (144 + 7 * n + 3) else x) 0 k 0 := by
    intro k
    induction k with
    | zero => intro _; rfl
    | succ k ih =>
      intro hk'
      have e := ih (by omega)
      have hkk := hk k (by omega)
      rw [itN_succ, itN_succ, itN_succ, e, Nat.zero_add]
      have z02 : ¬ (0 : Int32) = 2 := by decide
      have z12 : ¬ (1 : Int32) = 2 := by decide
      have z01 : ¬ (0 : Int32) = 1 := by decide
      have z10 : ¬ (1 : Int32) = 0 := by decide
      by_cases c1 : m (144 + 7 * k + 1) = l
      · rcases hkk with c2 | c2
        · simp only [c1, c2, z02, z12, z01, true_and, true_or, or_true, false_or, if_true, if_false]
          rw [Int32.add_assoc, Int32.add_assoc, Int32.add_comm (m (144 + 7 * k + 3))]
        · simp only [c1, c2, z02, z12, z10, true_and, true_or, or_true, false_or, if_true, if_false]
          rw [Int32.add_assoc]
      · simp only [c1, false_and, if_false]
  exact key (nc m) (Nat.le_refl _)
theorem xmsn_eq {σ : Sto} {j : Nat} {m : Mt} (h : Cla σ j m) (hc : Cnt m) (hk : Kin m) {l : Nat} (hl : l < nb m) : dc_X5_missing j (nI l) σ = some (msn m l, σ) := by
  have hb := hc.b.2
  have q := h.2.2.1 l (by omega)
  unfold dc_X5_missing msn
  rw [hasL_eq h, bd_s, if_pos (isL_nI hc hl), if_neg (by decide), if_pos (inb_nI (show l < 10 by omega) (by decide)), if_pos (inb_nI (show l < 10 by omega) (by decide)), nI_clamp (by omega), q.2.2.2.1, q.1, xpr_eq h hc _ _ (by decide), bd_s, xpr_eq h hc _ _ (by decide), bd_s, pr2 hk]
  by_cases c : m (34 + 11 * l + 3) = 0
  · simp only [c, if_true, Int32.sub_eq_add_neg, Int32.neg_add, Int32.add_assoc]
  · simp only [c, if_false]

def xnof (m : Mt) (l : Int32) : Int32 := itN (fun n x => if m (144 + 7 * n + 1) = l then x + 1 else x) 0 (nc m) 0
theorem xnof_eq {σ : Sto} {j : Nat} {m : Mt} (h : Cla σ j m) (hc : Cnt m) (l : Int32) : dc_X5_notesFor j l σ = some (xnof m l, σ) := by
  unfold dc_X5_notesFor
  obtain ⟨h3, hn⟩ := hc.c
  refine wh2_it (K := fun x => some (x, σ)) (fun n x => if m (144 + 7 * n + 1) = l then x + 1 else x) (nc m) (by omega) (fun rec i x hi => ?_) (fun rec x => ?_) 0
  · rw [h.1.2.2.2.1, h3, if_neg (by rw [nI_leI (by omega) (by omega)]; omega)]
    have q := h.2.2.2 i (by omega)
    simp only [if_pos (inb_nI (show i < 60 by omega) (by decide)), nI_clamp (show i < 2 ^ 31 by omega), q.2.1, nI_1]
    by_cases c1 : m (144 + 7 * i + 1) = l <;> simp only [c1, if_true, if_false]
  · rw [h.1.2.2.2.1, h3, if_pos (by rw [nI_leI (by omega) (by omega)]; omega)]
def xprO (m : Mt) (i0 : Int32) : Int32 := itN (fun n x => if m (144 + 7 * n) = i0 then x + m (144 + 7 * n + 3) else x) 0 (nc m) 0
theorem xprO_eq {σ : Sto} {j : Nat} {m : Mt} (h : Cla σ j m) (hc : Cnt m) (i0 : Int32) : dc_X5_principalsOf j i0 σ = some (xprO m i0, σ) := by
  unfold dc_X5_principalsOf
  obtain ⟨h3, hn⟩ := hc.c
  refine wh2_it (K := fun x => some (x, σ)) (fun n x => if m (144 + 7 * n) = i0 then x + m (144 + 7 * n + 3) else x) (nc m) (by omega) (fun rec i x hi => ?_) (fun rec x => ?_) 0
  · rw [h.1.2.2.2.1, h3, if_neg (by rw [nI_leI (by omega) (by omega)]; omega)]
    have q := h.2.2.2 i (by omega)
    simp only [if_pos (inb_nI (show i < 60 by omega) (by decide)), nI_clamp (show i < 2 ^ 31 by omega), q.1, q.2.2.2.1, nI_1]
    by_cases c1 : m (144 + 7 * i) = i0 <;> simp only [c1, if_true, if_false]
  · rw [h.1.2.2.2.1, h3, if_pos (by rw [nI_leI (by omega) (by omega)]; omega)]
def xlvO (m : Mt) (i0 : Int32) : Int32 := itN (fun n x => if m (144 + 7 * n) = i0 ∧ ¬ m (144 + 7 * n + 3) = 0 then x + 1 else x) 0 (nc m) 0
theorem xlvO_eq {σ : Sto} {j : Nat} {m : Mt} (h : Cla σ j m) (hc : Cnt m) (i0 : Int32) : dc_X5_liveNotesOf j i0 σ = some (xlvO m i0, σ) := by
  unfold dc_X5_liveNotesOf
  obtain ⟨h3, hn⟩ := hc.c
  refine wh2_it (K := fun x => some (x, σ)) (fun n x => if m (144 + 7 * n) = i0 ∧ ¬ m (144 + 7 * n + 3) = 0 then x + 1 else x) (nc m) (by omega) (fun rec i x hi => ?_) (fun rec x => ?_) 0
  · rw [h.1.2.2.2.1, h3, if_neg (by rw [nI_leI (by omega) (by omega)]; omega)]
    have q := h.2.2.2 i (by omega)
    simp only [if_pos (inb_nI (show i < 60 by omega) (by decide)), nI_clamp (show i < 2 ^ 31 by omega), q.1, q.2.2.2.1, nI_1]
    by_cases c1 : m (144 + 7 * i) = i0 <;> by_cases c2 : m (144 + 7 * i + 3) = 0 <;> simp [c1, c2]
  · rw [h.1.2.2.2.1, h3, if_pos (by rw [nI_leI (by omega) (by omega)]; omega)]
def xlnO (m : Mt) (i0 : Int32) : Int32 := itN (fun n x => if m (144 + 7 * n) = i0 ∧ ¬ m (144 + 7 * n + 3) = 0 then x ||| (1 <<< (m (144 + 7 * n + 1) &&& 31)) else x) 0 (nc m) 0
theorem xlnO_eq {σ : Sto} {j : Nat} {m : Mt} (h : Cla σ j m) (hc : Cnt m) (i0 : Int32) : dc_X5_loansOf j i0 σ = some (xlnO m i0, σ) := by
  unfold dc_X5_loansOf
  obtain ⟨h3, hn⟩ := hc.c
  refine wh2_it (K := fun x => some (x, σ)) (fun n x => if m (144 + 7 * n) = i0 ∧ ¬ m (144 + 7 * n + 3) = 0 then x ||| (1 <<< (m (144 + 7 * n + 1) &&& 31)) else x) (nc m) (by omega) (fun rec i x hi => ?_) (fun rec x => ?_) 0
  · rw [h.1.2.2.2.1, h3, if_neg (by rw [nI_leI (by omega) (by omega)]; omega)]
    have q := h.2.2.2 i (by omega)
    simp only [if_pos (inb_nI (show i < 60 by omega) (by decide)), nI_clamp (show i < 2 ^ 31 by omega), q.1, q.2.1, q.2.2.2.1, nI_1]
    by_cases c1 : m (144 + 7 * i) = i0 <;> by_cases c2 : m (144 + 7 * i + 3) = 0 <;> simp [c1, c2]
  · rw [h.1.2.2.2.1, h3, if_pos (by rw [nI_leI (by omega) (by omega)]; omega)]
def xinS (m : Mt) (s : Int32) : Int32 := itN (fun n x => if m (34 + 11 * n + 3) = s then x + 1 else x) 0 (nb m) 0
theorem xinS_eq {σ : Sto} {j : Nat} {m : Mt} (h : Cla σ j m) (hc : Cnt m) (s : Int32) : dc_X5_loansInState j s σ = some (xinS m s, σ) := by
  unfold dc_X5_loansInState
  obtain ⟨h3, hn⟩ := hc.b
  refine wh2_it (K := fun x => some (x, σ)) (fun n x => if m (34 + 11 * n + 3) = s then x + 1 else x) (nb m) (by omega) (fun rec i x hi => ?_) (fun rec x => ?_) 0
  · rw [h.1.2.2.1, h3, if_neg (by rw [nI_leI (by omega) (by omega)]; omega)]
    have q := h.2.2.1 i (by omega)
    simp only [if_pos (inb_nI (show i < 10 by omega) (by decide)), nI_clamp (show i < 2 ^ 31 by omega), q.2.2.2.1, nI_1]
    by_cases c1 : m (34 + 11 * i + 3) = s <;> simp only [c1, if_true, if_false]
  · rw [h.1.2.2.1, h3, if_pos (by rw [nI_leI (by omega) (by omega)]; omega)]
def xsvB (m : Mt) (s : Int32) : Int32 := itN (fun n x => if m (34 + 11 * n + 3) = 1 ∧ m (34 + 11 * n + 9) = s then x + 1 else x) 0 (nb m) 0
theorem xsvB_eq {σ : Sto} {j : Nat} {m : Mt} (h : Cla σ j m) (hc : Cnt m) (s : Int32) : dc_X5_loansServedBy j s σ = some (xsvB m s, σ) := by
  unfold dc_X5_loansServedBy
  obtain ⟨h3, hn⟩ := hc.b
  refine wh2_it (K := fun x => some (x, σ)) (fun n x => if m (34 + 11 * n + 3) = 1 ∧ m (34 + 11 * n + 9) = s then x + 1 else x) (nb m) (by omega) (fun rec i x hi => ?_) (fun rec x => ?_) 0
  · rw [h.1.2.2.1, h3, if_neg (by rw [nI_leI (by omega) (by omega)]; omega)]
    have q := h.2.2.1 i (by omega)
    simp only [xruns_eq h hc hi, if_pos (inb_nI (show i < 10 by omega) (by decide)), nI_clamp (show i < 2 ^ 31 by omega), q.2.2.2.2.2.2.2.2.2.1, bd_s, nI_1]
    by_cases c1 : m (34 + 11 * i + 3) = 1 <;> by_cases c2 : m (34 + 11 * i + 9) = s <;> simp [c1, c2]
  · rw [h.1.2.2.1, h3, if_pos (by rw [nI_leI (by omega) (by omega)]; omega)]
def xinA (m : Mt)  : Int32 := itN (fun n x => if ¬ m (34 + 11 * n + 8) ≤ 0 then x + 1 else x) 0 (nb m) 0
theorem xinA_eq {σ : Sto} {j : Nat} {m : Mt} (h : Cla σ j m) (hc : Cnt m)  : dc_X5_loansInArrears j  σ = some (xinA m , σ) := by
  unfold dc_X5_loansInArrears
  obtain ⟨h3, hn⟩ := hc.b
  refine wh2_it (K := fun x => some (x, σ)) (fun n x => if ¬ m (34 + 11 * n + 8) ≤ 0 then x + 1 else x) (nb m) (by omega) (fun rec i x hi => ?_) (fun rec x => ?_) 0
  · rw [h.1.2.2.1, h3, if_neg (by rw [nI_leI (by omega) (by omega)]; omega)]
    have q := h.2.2.1 i (by omega)
    simp only [if_pos (inb_nI (show i < 10 by omega) (by decide)), nI_clamp (show i < 2 ^ 31 by omega), q.2.2.2.2.2.2.2.2.1, nI_1]
    by_cases c1 : m (34 + 11 * i + 8) ≤ 0 <;> simp [c1]
  · rw [h.1.2.2.1, h3, if_pos (by rw [nI_leI (by omega) (by omega)]; omega)]
def xorS (m : Mt)  : Int32 := itN (fun n x => if m (34 + 11 * n + 10) = -5 then x else x + 1) 0 (nb m) 0
theorem xorS_eq {σ : Sto} {j : Nat} {m : Mt} (h : Cla σ j m) (hc : Cnt m)  : dc_X5_ordersOfSwitches j  σ = some (xorS m , σ) := by
  unfold dc_X5_ordersOfSwitches
  obtain ⟨h3, hn⟩ := hc.b
  refine wh2_it (K := fun x => some (x, σ)) (fun n x => if m (34 + 11 * n + 10) = -5 then x else x + 1) (nb m) (by omega) (fun rec i x hi => ?_) (fun rec x => ?_) 0
  · rw [h.1.2.2.1, h3, if_neg (by rw [nI_leI (by omega) (by omega)]; omega)]
    have q := h.2.2.1 i (by omega)
    simp only [if_pos (inb_nI (show i < 10 by omega) (by decide)), nI_clamp (show i < 2 ^ 31 by omega), q.2.2.2.2.2.2.2.2.2.2, nI_1]
    by_cases c1 : m (34 + 11 * i + 10) = -5 <;> simp [c1]
  · rw [h.1.2.2.1, h3, if_pos (by rw [nI_leI (by omega) (by omega)]; omega)]
def xaPr (m : Mt)  : Int32 := itN (fun n x => x + m (34 + 11 * n + 4)) 0 (nb m) 0
theorem xaPr_eq {σ : Sto} {j : Nat} {m : Mt} (h : Cla σ j m) (hc : Cnt m)  : dc_X5_allPrincipals j  σ = some (xaPr m , σ) := by
  unfold dc_X5_allPrincipals
  obtain ⟨h3, hn⟩ := hc.b
  refine wh2_it (K := fun x => some (x, σ)) (fun n x => x + m (34 + 11 * n + 4)) (nb m) (by omega) (fun rec i x hi => ?_) (fun rec x => ?_) 0
  · rw [h.1.2.2.1, h3, if_neg (by rw [nI_leI (by omega) (by omega)]; omega)]
    have q := h.2.2.1 i (by omega)
    simp only [if_pos (inb_nI (show i < 10 by omega) (by decide)), nI_clamp (show i < 2 ^ 31 by omega), q.2.2.2.2.1, nI_1]
    
  · rw [h.1.2.2.1, h3, if_pos (by rw [nI_leI (by omega) (by omega)]; omega)]
def xaIn (m : Mt)  : Int32 := itN (fun n x => x + m (34 + 11 * n + 6)) 0 (nb m) 0
theorem xaIn_eq {σ : Sto} {j : Nat} {m : Mt} (h : Cla σ j m) (hc : Cnt m)  : dc_X5_allInterestDue j  σ = some (xaIn m , σ) := by
  unfold dc_X5_allInterestDue
  obtain ⟨h3, hn⟩ := hc.b
  refine wh2_it (K := fun x => some (x, σ)) (fun n x => x + m (34 + 11 * n + 6)) (nb m) (by omega) (fun rec i x hi => ?_) (fun rec x => ?_) 0
  · rw [h.1.2.2.1, h3, if_neg (by rw [nI_leI (by omega) (by omega)]; omega)]
    have q := h.2.2.1 i (by omega)
    simp only [if_pos (inb_nI (show i < 10 by omega) (by decide)), nI_clamp (show i < 2 ^ 31 by omega), q.2.2.2.2.2.2.1, nI_1]
    
  · rw [h.1.2.2.1, h3, if_pos (by rw [nI_leI (by omega) (by omega)]; omega)]
def xaLo (m : Mt)  : Int32 := itN (fun n x => x + m (144 + 7 * n + 6)) 0 (nc m) 0
theorem xaLo_eq {σ : Sto} {j : Nat} {m : Mt} (h : Cla σ j m) (hc : Cnt m)  : dc_X5_allLosses j  σ = some (xaLo m , σ) := by
  unfold dc_X5_allLosses
  obtain ⟨h3, hn⟩ := hc.c
  refine wh2_it (K := fun x => some (x, σ)) (fun n x => x + m (144 + 7 * n + 6)) (nc m) (by omega) (fun rec i x hi => ?_) (fun rec x => ?_) 0
  · rw [h.1.2.2.2.1, h3, if_neg (by rw [nI_leI (by omega) (by omega)]; omega)]
    have q := h.2.2.2 i (by omega)
    simp only [if_pos (inb_nI (show i < 60 by omega) (by decide)), nI_clamp (show i < 2 ^ 31 by omega), q.2.2.2.2.2.2, nI_1]
    
  · rw [h.1.2.2.2.1, h3, if_pos (by rw [nI_leI (by omega) (by omega)]; omega)]
