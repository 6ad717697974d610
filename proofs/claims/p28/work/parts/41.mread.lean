/-! the reference, what only reads: out of the 564 numbers -/
theorem c_lit (k : Nat) (h : k < 2 ^ 31) : (nI k).toNatClampNeg = k := nI_clamp h
theorem in_eq (a b c : Int32) (σ : Sto) : dc_X10_in a b c σ = some (if a < b then 0 else if c < a then 0 else 1, σ) := by
  unfold dc_X10_in
  by_cases h1 : a < b
  · simp only [h1, if_true]
  · by_cases h2 : c < a <;> simp only [h1, h2, if_true, if_false]
theorem bd_s {α : Type} {r : Int32} {σ : Sto} {k : Int32 → Sto → Option α} : bd (some (r, σ)) k = k r σ := rfl
theorem bv_s {α : Type} {σ : Sto} {k : Sto → Option α} : bv (some σ) k = k σ := rfl
theorem of_nI {σ : Sto} {m : Mt} (hm : Mod σ m) {l w : Nat} (hl : l < 10) (hw : w < 11) : dc_X10_of (nI l) (nI w) σ = some (m (34 + 11 * l + w), σ) := by
  unfold dc_X10_of
  rw [x34, nI_add, if_pos (inb_nI (by omega) (by decide)), nI_clamp (by omega), hm _ (by omega)]
theorem be_nI {σ : Sto} {l w : Nat} {v : Int32} (hl : l < 10) (hw : w < 11) : dc_X10_be (nI l) (nI w) v σ = some (up σ 304 0 (34 + 11 * l + w) v) := by
  unfold dc_X10_be
  rw [x34, nI_add, if_pos (inb_nI (by omega) (by decide)), nI_clamp (by omega)]
theorem on_nI {σ : Sto} {m : Mt} (hm : Mod σ m) {l w : Nat} (hl : l < 60) (hw : w < 7) : dc_X10_ofNote (nI l) (nI w) σ = some (m (144 + 7 * l + w), σ) := by
  unfold dc_X10_ofNote
  rw [x144, nI_add, if_pos (inb_nI (by omega) (by decide)), nI_clamp (by omega), hm _ (by omega)]
theorem mo_nI {σ : Sto} {m : Mt} (hm : Mod σ m) {l w : Nat} {v : Int32} (hl : l < 60) (hw : w < 7) : dc_X10_more (nI l) (nI w) v σ = some (up σ 304 0 (144 + 7 * l + w) (m (144 + 7 * l + w) + v)) := by
  unfold dc_X10_more
  rw [x144, nI_add, if_pos (inb_nI (by omega) (by decide)), if_pos (inb_nI (by omega) (by decide)), nI_clamp (by omega), hm _ (by omega)]
theorem of_0 {σ : Sto} {m : Mt} (hm : Mod σ m) {l : Nat} (hl : l < 10) : dc_X10_of (nI l) (0 : Int32) σ = some (m (34 + 11 * l + 0), σ) := of_nI (w := 0) hm hl (by decide)
theorem be_0 {σ : Sto} {l : Nat} {v : Int32} (hl : l < 10) : dc_X10_be (nI l) (0 : Int32) v σ = some (up σ 304 0 (34 + 11 * l + 0) v) := be_nI (w := 0) hl (by decide)
theorem of_1 {σ : Sto} {m : Mt} (hm : Mod σ m) {l : Nat} (hl : l < 10) : dc_X10_of (nI l) (1 : Int32) σ = some (m (34 + 11 * l + 1), σ) := of_nI (w := 1) hm hl (by decide)
theorem be_1 {σ : Sto} {l : Nat} {v : Int32} (hl : l < 10) : dc_X10_be (nI l) (1 : Int32) v σ = some (up σ 304 0 (34 + 11 * l + 1) v) := be_nI (w := 1) hl (by decide)
theorem of_2 {σ : Sto} {m : Mt} (hm : Mod σ m) {l : Nat} (hl : l < 10) : dc_X10_of (nI l) (2 : Int32) σ = some (m (34 + 11 * l + 2), σ) := of_nI (w := 2) hm hl (by decide)
theorem be_2 {σ : Sto} {l : Nat} {v : Int32} (hl : l < 10) : dc_X10_be (nI l) (2 : Int32) v σ = some (up σ 304 0 (34 + 11 * l + 2) v) := be_nI (w := 2) hl (by decide)
theorem of_3 {σ : Sto} {m : Mt} (hm : Mod σ m) {l : Nat} (hl : l < 10) : dc_X10_of (nI l) (3 : Int32) σ = some (m (34 + 11 * l + 3), σ) := of_nI (w := 3) hm hl (by decide)
theorem be_3 {σ : Sto} {l : Nat} {v : Int32} (hl : l < 10) : dc_X10_be (nI l) (3 : Int32) v σ = some (up σ 304 0 (34 + 11 * l + 3) v) := be_nI (w := 3) hl (by decide)
theorem of_4 {σ : Sto} {m : Mt} (hm : Mod σ m) {l : Nat} (hl : l < 10) : dc_X10_of (nI l) (4 : Int32) σ = some (m (34 + 11 * l + 4), σ) := of_nI (w := 4) hm hl (by decide)
theorem be_4 {σ : Sto} {l : Nat} {v : Int32} (hl : l < 10) : dc_X10_be (nI l) (4 : Int32) v σ = some (up σ 304 0 (34 + 11 * l + 4) v) := be_nI (w := 4) hl (by decide)
theorem of_5 {σ : Sto} {m : Mt} (hm : Mod σ m) {l : Nat} (hl : l < 10) : dc_X10_of (nI l) (5 : Int32) σ = some (m (34 + 11 * l + 5), σ) := of_nI (w := 5) hm hl (by decide)
theorem be_5 {σ : Sto} {l : Nat} {v : Int32} (hl : l < 10) : dc_X10_be (nI l) (5 : Int32) v σ = some (up σ 304 0 (34 + 11 * l + 5) v) := be_nI (w := 5) hl (by decide)
theorem of_6 {σ : Sto} {m : Mt} (hm : Mod σ m) {l : Nat} (hl : l < 10) : dc_X10_of (nI l) (6 : Int32) σ = some (m (34 + 11 * l + 6), σ) := of_nI (w := 6) hm hl (by decide)
theorem be_6 {σ : Sto} {l : Nat} {v : Int32} (hl : l < 10) : dc_X10_be (nI l) (6 : Int32) v σ = some (up σ 304 0 (34 + 11 * l + 6) v) := be_nI (w := 6) hl (by decide)
theorem of_7 {σ : Sto} {m : Mt} (hm : Mod σ m) {l : Nat} (hl : l < 10) : dc_X10_of (nI l) (7 : Int32) σ = some (m (34 + 11 * l + 7), σ) := of_nI (w := 7) hm hl (by decide)
theorem be_7 {σ : Sto} {l : Nat} {v : Int32} (hl : l < 10) : dc_X10_be (nI l) (7 : Int32) v σ = some (up σ 304 0 (34 + 11 * l + 7) v) := be_nI (w := 7) hl (by decide)
theorem of_8 {σ : Sto} {m : Mt} (hm : Mod σ m) {l : Nat} (hl : l < 10) : dc_X10_of (nI l) (8 : Int32) σ = some (m (34 + 11 * l + 8), σ) := of_nI (w := 8) hm hl (by decide)
theorem be_8 {σ : Sto} {l : Nat} {v : Int32} (hl : l < 10) : dc_X10_be (nI l) (8 : Int32) v σ = some (up σ 304 0 (34 + 11 * l + 8) v) := be_nI (w := 8) hl (by decide)
theorem of_9 {σ : Sto} {m : Mt} (hm : Mod σ m) {l : Nat} (hl : l < 10) : dc_X10_of (nI l) (9 : Int32) σ = some (m (34 + 11 * l + 9), σ) := of_nI (w := 9) hm hl (by decide)
theorem be_9 {σ : Sto} {l : Nat} {v : Int32} (hl : l < 10) : dc_X10_be (nI l) (9 : Int32) v σ = some (up σ 304 0 (34 + 11 * l + 9) v) := be_nI (w := 9) hl (by decide)
theorem of_10 {σ : Sto} {m : Mt} (hm : Mod σ m) {l : Nat} (hl : l < 10) : dc_X10_of (nI l) (10 : Int32) σ = some (m (34 + 11 * l + 10), σ) := of_nI (w := 10) hm hl (by decide)
theorem be_10 {σ : Sto} {l : Nat} {v : Int32} (hl : l < 10) : dc_X10_be (nI l) (10 : Int32) v σ = some (up σ 304 0 (34 + 11 * l + 10) v) := be_nI (w := 10) hl (by decide)
theorem on_0 {σ : Sto} {m : Mt} (hm : Mod σ m) {l : Nat} (hl : l < 60) : dc_X10_ofNote (nI l) (0 : Int32) σ = some (m (144 + 7 * l + 0), σ) := on_nI (w := 0) hm hl (by decide)
theorem mo_0 {σ : Sto} {m : Mt} (hm : Mod σ m) {l : Nat} {v : Int32} (hl : l < 60) : dc_X10_more (nI l) (0 : Int32) v σ = some (up σ 304 0 (144 + 7 * l + 0) (m (144 + 7 * l + 0) + v)) := mo_nI (w := 0) hm hl (by decide)
theorem on_1 {σ : Sto} {m : Mt} (hm : Mod σ m) {l : Nat} (hl : l < 60) : dc_X10_ofNote (nI l) (1 : Int32) σ = some (m (144 + 7 * l + 1), σ) := on_nI (w := 1) hm hl (by decide)
theorem mo_1 {σ : Sto} {m : Mt} (hm : Mod σ m) {l : Nat} {v : Int32} (hl : l < 60) : dc_X10_more (nI l) (1 : Int32) v σ = some (up σ 304 0 (144 + 7 * l + 1) (m (144 + 7 * l + 1) + v)) := mo_nI (w := 1) hm hl (by decide)
theorem on_2 {σ : Sto} {m : Mt} (hm : Mod σ m) {l : Nat} (hl : l < 60) : dc_X10_ofNote (nI l) (2 : Int32) σ = some (m (144 + 7 * l + 2), σ) := on_nI (w := 2) hm hl (by decide)
theorem mo_2 {σ : Sto} {m : Mt} (hm : Mod σ m) {l : Nat} {v : Int32} (hl : l < 60) : dc_X10_more (nI l) (2 : Int32) v σ = some (up σ 304 0 (144 + 7 * l + 2) (m (144 + 7 * l + 2) + v)) := mo_nI (w := 2) hm hl (by decide)
theorem on_3 {σ : Sto} {m : Mt} (hm : Mod σ m) {l : Nat} (hl : l < 60) : dc_X10_ofNote (nI l) (3 : Int32) σ = some (m (144 + 7 * l + 3), σ) := on_nI (w := 3) hm hl (by decide)
theorem mo_3 {σ : Sto} {m : Mt} (hm : Mod σ m) {l : Nat} {v : Int32} (hl : l < 60) : dc_X10_more (nI l) (3 : Int32) v σ = some (up σ 304 0 (144 + 7 * l + 3) (m (144 + 7 * l + 3) + v)) := mo_nI (w := 3) hm hl (by decide)
theorem on_4 {σ : Sto} {m : Mt} (hm : Mod σ m) {l : Nat} (hl : l < 60) : dc_X10_ofNote (nI l) (4 : Int32) σ = some (m (144 + 7 * l + 4), σ) := on_nI (w := 4) hm hl (by decide)
theorem mo_4 {σ : Sto} {m : Mt} (hm : Mod σ m) {l : Nat} {v : Int32} (hl : l < 60) : dc_X10_more (nI l) (4 : Int32) v σ = some (up σ 304 0 (144 + 7 * l + 4) (m (144 + 7 * l + 4) + v)) := mo_nI (w := 4) hm hl (by decide)
theorem on_5 {σ : Sto} {m : Mt} (hm : Mod σ m) {l : Nat} (hl : l < 60) : dc_X10_ofNote (nI l) (5 : Int32) σ = some (m (144 + 7 * l + 5), σ) := on_nI (w := 5) hm hl (by decide)
theorem mo_5 {σ : Sto} {m : Mt} (hm : Mod σ m) {l : Nat} {v : Int32} (hl : l < 60) : dc_X10_more (nI l) (5 : Int32) v σ = some (up σ 304 0 (144 + 7 * l + 5) (m (144 + 7 * l + 5) + v)) := mo_nI (w := 5) hm hl (by decide)
theorem on_6 {σ : Sto} {m : Mt} (hm : Mod σ m) {l : Nat} (hl : l < 60) : dc_X10_ofNote (nI l) (6 : Int32) σ = some (m (144 + 7 * l + 6), σ) := on_nI (w := 6) hm hl (by decide)
theorem mo_6 {σ : Sto} {m : Mt} (hm : Mod σ m) {l : Nat} {v : Int32} (hl : l < 60) : dc_X10_more (nI l) (6 : Int32) v σ = some (up σ 304 0 (144 + 7 * l + 6) (m (144 + 7 * l + 6) + v)) := mo_nI (w := 6) hm hl (by decide)
theorem ib_0 : inb (0 : Int32) 564 := by decide
theorem cl_0 : (0 : Int32).toNatClampNeg = 0 := by decide
theorem ib_1 : inb (1 : Int32) 564 := by decide
theorem cl_1 : (1 : Int32).toNatClampNeg = 1 := by decide
theorem ib_2 : inb (2 : Int32) 564 := by decide
theorem cl_2 : (2 : Int32).toNatClampNeg = 2 := by decide
theorem ib_3 : inb (3 : Int32) 564 := by decide
theorem cl_3 : (3 : Int32).toNatClampNeg = 3 := by decide
theorem ib_4 : inb (4 : Int32) 564 := by decide
theorem cl_4 : (4 : Int32).toNatClampNeg = 4 := by decide
theorem ib_5 : inb (5 : Int32) 564 := by decide
theorem cl_5 : (5 : Int32).toNatClampNeg = 5 := by decide
theorem ib_6 : inb (6 : Int32) 564 := by decide
theorem cl_6 : (6 : Int32).toNatClampNeg = 6 := by decide
/-- the bounds that hold of every state -/
abbrev isI (m : Mt) (a : Int32) : Prop := 0 ≤ a.toInt ∧ a.toInt < (m 1).toInt
abbrev isL (m : Mt) (a : Int32) : Prop := 0 ≤ a.toInt ∧ a.toInt < (m 2).toInt
abbrev isN (m : Mt) (a : Int32) : Prop := 0 ≤ a.toInt ∧ a.toInt < (m 3).toInt
def Cnt (m : Mt) : Prop := (0 ≤ (m 1).toInt ∧ (m 1).toInt ≤ 8) ∧ (0 ≤ (m 2).toInt ∧ (m 2).toInt ≤ 10) ∧ 0 ≤ (m 3).toInt ∧ (m 3).toInt ≤ 60
theorem Cnt.b {m : Mt} (h : Cnt m) : m 2 = nI (nb m) ∧ nb m ≤ 10 := ⟨nIe h.2.1.1, by show (m 2).toNatClampNeg ≤ 10; have := clI h.2.1.1; have := h.2.1.2; omega⟩
theorem Cnt.c {m : Mt} (h : Cnt m) : m 3 = nI (nc m) ∧ nc m ≤ 60 := ⟨nIe h.2.2.1, by show (m 3).toNatClampNeg ≤ 60; have := clI h.2.2.1; have := h.2.2.2; omega⟩
theorem Cnt.a {m : Mt} (h : Cnt m) : m 1 = nI (na m) ∧ na m ≤ 8 := ⟨nIe h.1.1, by show (m 1).toNatClampNeg ≤ 8; have := clI h.1.1; have := h.1.2; omega⟩
theorem isx {a k : Int32} (h : 0 ≤ k.toInt) : (if a < (0 : Int32) then (0 : Int32) else if k - 1 < a then 0 else 1) = if 0 ≤ a.toInt ∧ a.toInt < k.toInt then 1 else 0 := by
  have h0 : (0 : Int32).toInt = 0 := rfl
  have h1 : (k - 1).toInt = k.toInt - 1 := by
    have := thi k
    rw [tsub] <;> rw [show (1 : Int32).toInt = 1 from rfl] <;> omega
  simp only [tlt, h0, h1]
  by_cases c1 : a.toInt < 0
  · rw [if_pos c1, if_neg (by omega)]
  · rw [if_neg c1]
    by_cases c2 : k.toInt - 1 < a.toInt
    · rw [if_pos c2, if_neg (by omega)]
    · rw [if_neg c2, if_pos (by omega)]
theorem b01 {p : Prop} [Decidable p] : ((if p then (1 : Int32) else 0) = 0 ∨ (if p then (1 : Int32) else 0) = 1) = True := by
  by_cases h : p <;> simp [h]
theorem isI_eq {σ : Sto} {m : Mt} (hm : Mod σ m) (hc : Cnt m) (a : Int32) : dc_X10_isInvestor a σ = some (if isI m a then 1 else 0, σ) := by
  unfold dc_X10_isInvestor
  rw [if_pos ib_1, cl_1, hm 1 (by decide), in_eq, bd_s, isx hc.1.1]
  simp only [b01, if_true]
theorem isL_eq {σ : Sto} {m : Mt} (hm : Mod σ m) (hc : Cnt m) (a : Int32) : dc_X10_isLoan a σ = some (if isL m a then 1 else 0, σ) := by
  unfold dc_X10_isLoan
  rw [if_pos ib_2, cl_2, hm 2 (by decide), in_eq, bd_s, isx hc.2.1.1]
  simp only [b01, if_true]
theorem isN_eq {σ : Sto} {m : Mt} (hm : Mod σ m) (hc : Cnt m) (a : Int32) : dc_X10_isNote a σ = some (if isN m a then 1 else 0, σ) := by
  unfold dc_X10_isNote
  rw [if_pos ib_3, cl_3, hm 3 (by decide), in_eq, bd_s, isx hc.2.2.1]
  simp only [b01, if_true]
theorem isS_eq {σ : Sto} (a : Int32) : dc_X10_isServicer a σ = some (if 0 ≤ a.toInt ∧ a.toInt < 4 then 1 else 0, σ) := by
  unfold dc_X10_isServicer
  rw [in_eq, bd_s, show (3 : Int32) = 4 - 1 from rfl, isx (by decide), show (4 : Int32).toInt = 4 from rfl]
  simp only [b01, if_true]
theorem runs_eq {σ : Sto} {m : Mt} (hm : Mod σ m) {l : Nat} (hl : l < 10) : dc_X10_runs (nI l) σ = some (if m (34 + 11 * l + 3) = 1 then 1 else 0, σ) := by
  unfold dc_X10_runs
  rw [of_3 hm hl, bd_s]
  by_cases h : m (34 + 11 * l + 3) = 1 <;> simp only [h, if_true, if_false]
/-- principals of a loan's notes: of a class, or of both (2) -/
def pr (m : Mt) (l s : Int32) : Int32 := itN (fun n x => if m (144 + 7 * n + 1) = l ∧ (s = 2 ∨ m (144 + 7 * n + 2) = s) then x + m (144 + 7 * n + 3) else x) 0 (nc m) 0
theorem pr_eq {σ : Sto} {m : Mt} (hm : Mod σ m) (hc : Cnt m) (l s : Int32) : dc_X10_principals l s σ = some (pr m l s, σ) := by
  unfold dc_X10_principals
  obtain ⟨h3, hn⟩ := hc.c
  refine wh2_it (K := fun x => some (x, σ)) (fun n x => if m (144 + 7 * n + 1) = l ∧ (s = 2 ∨ m (144 + 7 * n + 2) = s) then x + m (144 + 7 * n + 3) else x) (nc m) (by omega) (fun rec i x hi => ?_) (fun rec x => ?_) 0
  · rw [if_pos ib_3, cl_3, hm 3 (by decide), h3, if_neg (by rw [nI_leI (by omega) (by omega)]; omega)]
    simp only [on_1 hm (show i < 60 by omega), on_2 hm (show i < 60 by omega), on_3 hm (show i < 60 by omega), bd_s, nI_1, Int32.add_zero]
    by_cases c1 : m (144 + 7 * i + 1) = l
    · by_cases c2 : s = 2
      · simp only [c1, c2, if_true, true_and, true_or]
      · by_cases c3 : m (144 + 7 * i + 2) = s
        · simp only [c1, c2, c3, if_true, if_false, true_and, or_true]
        · simp only [c1, c2, c3, if_true, if_false, or_self, and_false]
    · simp only [c1, if_false, false_and]
  · rw [if_pos ib_3, cl_3, hm 3 (by decide), h3, if_pos (by rw [nI_leI (by omega) (by omega)]; omega)]
def msn (m : Mt) (l : Nat) : Int32 := if m (34 + 11 * l + 3) = 0 then m (34 + 11 * l) - pr m (nI l) 2 else 0
theorem msn_eq {σ : Sto} {m : Mt} (hm : Mod σ m) (hc : Cnt m) {l : Nat} (hl : l < 10) : dc_X10_missing (nI l) σ = some (msn m l, σ) := by
  unfold dc_X10_missing msn
  rw [of_3 hm hl, bd_s, of_0 hm hl, bd_s, pr_eq hm hc, bd_s]
  by_cases h : m (34 + 11 * l + 3) = 0 <;> simp only [h, if_true, if_false, Nat.add_zero]

def nof (m : Mt) (l : Int32) : Int32 := itN (fun n x => if m (144 + 7 * n + 1) = l then x + 1 else x) 0 (nc m) 0
theorem nof_eq {σ : Sto} {m : Mt} (hm : Mod σ m) (hc : Cnt m) (l : Int32) : dc_X10_notesOf l σ = some (nof m l, σ) := by
  unfold dc_X10_notesOf
  obtain ⟨h3, hn⟩ := hc.c
  refine wh2_it (K := fun x => some (x, σ)) (fun n x => if m (144 + 7 * n + 1) = l then x + 1 else x) (nc m) (by omega) (fun rec i x hi => ?_) (fun rec x => ?_) 0
  · rw [if_pos ib_3, cl_3, hm 3 (by decide), h3, if_neg (by rw [nI_leI (by omega) (by omega)]; omega)]
    simp only [on_1 hm (show i < 60 by omega), bd_s, nI_1, Int32.add_zero]
    by_cases c1 : m (144 + 7 * i + 1) = l <;> simp only [c1, if_true, if_false]
  · rw [if_pos ib_3, cl_3, hm 3 (by decide), h3, if_pos (by rw [nI_leI (by omega) (by omega)]; omega)]
def los (m : Mt)  : Int32 := itN (fun n x => x + m (144 + 7 * n + 6)) 0 (nc m) 0
theorem los_eq {σ : Sto} {m : Mt} (hm : Mod σ m) (hc : Cnt m)  : dc_X10_losses  σ = some (los m , σ) := by
  unfold dc_X10_losses
  obtain ⟨h3, hn⟩ := hc.c
  refine wh2_it (K := fun x => some (x, σ)) (fun n x => x + m (144 + 7 * n + 6)) (nc m) (by omega) (fun rec i x hi => ?_) (fun rec x => ?_) 0
  · rw [if_pos ib_3, cl_3, hm 3 (by decide), h3, if_neg (by rw [nI_leI (by omega) (by omega)]; omega)]
    simp only [on_6 hm (show i < 60 by omega), bd_s, nI_1, Int32.add_zero]
    
  · rw [if_pos ib_3, cl_3, hm 3 (by decide), h3, if_pos (by rw [nI_leI (by omega) (by omega)]; omega)]
def inS (m : Mt) (s : Int32) : Int32 := itN (fun n x => if m (34 + 11 * n + 3) = s then x + 1 else x) 0 (nb m) 0
theorem inS_eq {σ : Sto} {m : Mt} (hm : Mod σ m) (hc : Cnt m) (s : Int32) : dc_X10_inState s σ = some (inS m s, σ) := by
  unfold dc_X10_inState
  obtain ⟨h3, hn⟩ := hc.b
  refine wh2_it (K := fun x => some (x, σ)) (fun n x => if m (34 + 11 * n + 3) = s then x + 1 else x) (nb m) (by omega) (fun rec i x hi => ?_) (fun rec x => ?_) 0
  · rw [if_pos ib_2, cl_2, hm 2 (by decide), h3, if_neg (by rw [nI_leI (by omega) (by omega)]; omega)]
    simp only [of_3 hm (show i < 10 by omega), bd_s, nI_1, Int32.add_zero]
    by_cases c1 : m (34 + 11 * i + 3) = s <;> simp only [c1, if_true, if_false]
  · rw [if_pos ib_2, cl_2, hm 2 (by decide), h3, if_pos (by rw [nI_leI (by omega) (by omega)]; omega)]
def inA (m : Mt)  : Int32 := itN (fun n x => if m (34 + 11 * n + 3) = 1 ∧ ¬ m (34 + 11 * n + 8) ≤ 0 then x + 1 else x) 0 (nb m) 0
theorem inA_eq {σ : Sto} {m : Mt} (hm : Mod σ m) (hc : Cnt m)  : dc_X10_inArrears  σ = some (inA m , σ) := by
  unfold dc_X10_inArrears
  obtain ⟨h3, hn⟩ := hc.b
  refine wh2_it (K := fun x => some (x, σ)) (fun n x => if m (34 + 11 * n + 3) = 1 ∧ ¬ m (34 + 11 * n + 8) ≤ 0 then x + 1 else x) (nb m) (by omega) (fun rec i x hi => ?_) (fun rec x => ?_) 0
  · rw [if_pos ib_2, cl_2, hm 2 (by decide), h3, if_neg (by rw [nI_leI (by omega) (by omega)]; omega)]
    simp only [runs_eq hm (show i < 10 by omega), of_8 hm (show i < 10 by omega), bd_s, nI_1, Int32.add_zero]
    by_cases c1 : m (34 + 11 * i + 3) = 1 <;> by_cases c2 : m (34 + 11 * i + 8) ≤ 0 <;> simp [c1, c2]
  · rw [if_pos ib_2, cl_2, hm 2 (by decide), h3, if_pos (by rw [nI_leI (by omega) (by omega)]; omega)]
def rnW (m : Mt) (s : Int32) : Int32 := itN (fun n x => if m (34 + 11 * n + 3) = 1 ∧ m (34 + 11 * n + 9) = s then x + 1 else x) 0 (nb m) 0
theorem rnW_eq {σ : Sto} {m : Mt} (hm : Mod σ m) (hc : Cnt m) (s : Int32) : dc_X10_runningWith s σ = some (rnW m s, σ) := by
  unfold dc_X10_runningWith
  obtain ⟨h3, hn⟩ := hc.b
  refine wh2_it (K := fun x => some (x, σ)) (fun n x => if m (34 + 11 * n + 3) = 1 ∧ m (34 + 11 * n + 9) = s then x + 1 else x) (nb m) (by omega) (fun rec i x hi => ?_) (fun rec x => ?_) 0
  · rw [if_pos ib_2, cl_2, hm 2 (by decide), h3, if_neg (by rw [nI_leI (by omega) (by omega)]; omega)]
    simp only [runs_eq hm (show i < 10 by omega), of_9 hm (show i < 10 by omega), bd_s, nI_1, Int32.add_zero]
    by_cases c1 : m (34 + 11 * i + 3) = 1 <;> by_cases c2 : m (34 + 11 * i + 9) = s <;> simp [c1, c2]
  · rw [if_pos ib_2, cl_2, hm 2 (by decide), h3, if_pos (by rw [nI_leI (by omega) (by omega)]; omega)]
def smO (m : Mt) (w : Int32) : Int32 := itN (fun n x => if w = 12 then x + m (34 + 11 * n + 6) else if w = 15 then (if m (34 + 11 * n + 10) = -5 then x else x + 1) else if m (34 + 11 * n + 3) = 1 then x + m (34 + 11 * n + 4) else x) 0 (nb m) 0
theorem smO_eq {σ : Sto} {m : Mt} (hm : Mod σ m) (hc : Cnt m) (w : Int32) : dc_X10_sumOf w σ = some (smO m w, σ) := by
  unfold dc_X10_sumOf
  obtain ⟨h3, hn⟩ := hc.b
  refine wh2_it (K := fun x => some (x, σ)) (fun n x => if w = 12 then x + m (34 + 11 * n + 6) else if w = 15 then (if m (34 + 11 * n + 10) = -5 then x else x + 1) else if m (34 + 11 * n + 3) = 1 then x + m (34 + 11 * n + 4) else x) (nb m) (by omega) (fun rec i x hi => ?_) (fun rec x => ?_) 0
  · rw [if_pos ib_2, cl_2, hm 2 (by decide), h3, if_neg (by rw [nI_leI (by omega) (by omega)]; omega)]
    simp only [runs_eq hm (show i < 10 by omega), of_6 hm (show i < 10 by omega), of_10 hm (show i < 10 by omega), of_4 hm (show i < 10 by omega), bd_s, nI_1, Int32.add_zero]
    by_cases c1 : w = 12 <;> by_cases c2 : w = 15 <;> by_cases c3 : m (34 + 11 * i + 3) = 1 <;> by_cases c4 : m (34 + 11 * i + 10) = -5 <;> simp [c1, c2, c3, c4]
  · rw [if_pos ib_2, cl_2, hm 2 (by decide), h3, if_pos (by rw [nI_leI (by omega) (by omega)]; omega)]
def hld (m : Mt) (i0 w : Int32) : Int32 := itN (fun n x => if m (144 + 7 * n) = i0 ∧ ¬ m (144 + 7 * n + 3) ≤ 0 then (if w = 1 then x + m (144 + 7 * n + 3) else if w = 2 then x + 1 else x ||| (1 <<< (m (144 + 7 * n + 1) &&& 31))) else x) 0 (nc m) 0
theorem hld_eq {σ : Sto} {m : Mt} (hm : Mod σ m) (hc : Cnt m) (i0 w : Int32) : dc_X10_held i0 w σ = some (hld m i0 w, σ) := by
  unfold dc_X10_held
  obtain ⟨h3, hn⟩ := hc.c
  refine wh2_it (K := fun x => some (x, σ)) (fun n x => if m (144 + 7 * n) = i0 ∧ ¬ m (144 + 7 * n + 3) ≤ 0 then (if w = 1 then x + m (144 + 7 * n + 3) else if w = 2 then x + 1 else x ||| (1 <<< (m (144 + 7 * n + 1) &&& 31))) else x) (nc m) (by omega) (fun rec i x hi => ?_) (fun rec x => ?_) 0
  · rw [if_pos ib_3, cl_3, hm 3 (by decide), h3, if_neg (by rw [nI_leI (by omega) (by omega)]; omega)]
    simp only [on_0 hm (show i < 60 by omega), on_1 hm (show i < 60 by omega), on_3 hm (show i < 60 by omega), bd_s, nI_1, Int32.add_zero]
    by_cases c1 : m (144 + 7 * i) = i0 <;> by_cases c2 : m (144 + 7 * i + 3) ≤ 0 <;> by_cases c3 : w = 1 <;> by_cases c4 : w = 2 <;> simp [c1, c2, c3, c4]
  · rw [if_pos ib_3, cl_3, hm 3 (by decide), h3, if_pos (by rw [nI_leI (by omega) (by omega)]; omega)]
