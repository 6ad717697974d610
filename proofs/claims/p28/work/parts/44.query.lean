/-! the questions: the same answer on both sides -/
theorem ite_q {p : Prop} [Decidable p] {a b : Int32} {σ : Sto} {B : Option (Int32 × Sto)} (hB : B = some (b, σ)) : (if p then some (a, σ) else B) = some (if p then a else b, σ) := by
  by_cases h : p
  · rw [if_pos h, if_pos h]
  · rw [if_neg h, if_neg h, hB]
theorem rng {a x y : Int32} : (if a < x then (0 : Int32) else if y < a then 0 else 1) = if x.toInt ≤ a.toInt ∧ a.toInt ≤ y.toInt then 1 else 0 := by
  simp only [tlt]
  by_cases c1 : a.toInt < x.toInt
  · rw [if_pos c1, if_neg (by omega)]
  · rw [if_neg c1]
    by_cases c2 : y.toInt < a.toInt
    · rw [if_pos c2, if_neg (by omega)]
    · rw [if_neg c2, if_pos (by omega)]
theorem nIc (k c : Nat) (v : Int32) (h : v = nI c) : nI k + v = nI (k + c) := by rw [h, nI_add]
theorem nI43 (k : Nat) : nI k + 4 - 3 = nI (k + 1) := by
  rw [show (4 : Int32) = 1 + 3 from rfl, ← Int32.add_assoc, Int32.add_sub_cancel, nI_1]
theorem nI53 (k : Nat) : nI k + 5 - 3 = nI (k + 2) := by
  rw [show (5 : Int32) = 2 + 3 from rfl, ← Int32.add_assoc, Int32.add_sub_cancel, nIc k 2 2 rfl]
theorem le0 {x : Int32} (h : 0 ≤ x.toInt) : (x ≤ 0) = (x = 0) := by
  have h0 : (0 : Int32).toInt = 0 := rfl
  apply propext
  rw [tle, teq, h0]
  omega
theorem hld1 {m : Mt} {K : Int} (hI : InvM K m) (i : Int32) : hld m i 1 = xprO m i := by
  refine itN_congr fun n x _ hn => ?_
  have q := (hI.2.2.2.2.2.2.1 n (by omega)).2.2.2.1.1
  simp only [le0 q]
  by_cases c1 : m (144 + 7 * n) = i <;> by_cases c2 : m (144 + 7 * n + 3) = 0 <;> simp [c1, c2]
theorem hld2 {m : Mt} {K : Int} (hI : InvM K m) (i : Int32) : hld m i 2 = xlvO m i := by
  refine itN_congr fun n x _ hn => ?_
  have q := (hI.2.2.2.2.2.2.1 n (by omega)).2.2.2.1.1
  simp only [le0 q]
  by_cases c1 : m (144 + 7 * n) = i <;> by_cases c2 : m (144 + 7 * n + 3) = 0 <;> simp [c1, c2]
theorem hld3 {m : Mt} {K : Int} (hI : InvM K m) (i : Int32) : hld m i 3 = xlnO m i := by
  refine itN_congr fun n x _ hn => ?_
  have q := (hI.2.2.2.2.2.2.1 n (by omega)).2.2.2.1.1
  simp only [le0 q]
  by_cases c1 : m (144 + 7 * n) = i <;> by_cases c2 : m (144 + 7 * n + 3) = 0 <;> simp [c1, c2]
theorem inA_x {m : Mt} {K : Int} (hI : InvM K m) : inA m = xinA m := by
  refine itN_congr fun n x _ hn => ?_
  have q := (hI.2.2.2.2.2.1 n (by omega)).2.2.2.2.2.2.2.2.2.2.2
  by_cases c1 : m (34 + 11 * n + 3) = 1
  · simp only [c1, true_and]
  · simp [c1, (q c1).2.2.2.1]
theorem smO11 {m : Mt} {K : Int} (hI : InvM K m) : smO m 11 = xaPr m := by
  refine itN_congr fun n x _ hn => ?_
  have q := (hI.2.2.2.2.2.1 n (by omega)).2.2.2.2.2.2.2.2.2.2.2
  by_cases c1 : m (34 + 11 * n + 3) = 1
  · simp [c1]
  · simp [c1, (q c1).1]
theorem smO12 {m : Mt} : smO m 12 = xaIn m := itN_congr fun n x _ hn => by simp
theorem smO15 {m : Mt} : smO m 15 = xorS m := itN_congr fun n x _ hn => by simp

theorem q_investor {K : Int} {Z : Zt} (hI : InvZ K Z) (a b : Int32) : Pair K Z (dc_X9_investor a b) (dc_X10_investor a b) := by
  have hc := hI.1.1
  by_cases h : isI Z.1 a
  · obtain ⟨i, hi, rfl⟩ := isI_of hc h
    have hi8 := hc.a.2
    refine Pair.q hI (if b = 0 then Z.1 (10 + 3 * i) else if b = 1 then xprO Z.1 (nI i) else if b = 2 then xlvO Z.1 (nI i) else if b = 3 then xlnO Z.1 (nI i) else if b = 4 then Z.1 (10 + 3 * i + 1) else if b = 5 then Z.1 (10 + 3 * i + 2) else -2) (fun σ hr => ?_) (fun σ hr => ?_)
    · unfold dc_X9_investor
      have q := hr.1.2.1 i (by omega)
      rw [hasI_eq hr.1, bd_s, if_pos h, if_neg (by decide), if_pos (inb_nI (show i < 8 by omega) (by decide))]
      simp only [xprO_eq hr.1 hc, xlvO_eq hr.1 hc, xlnO_eq hr.1 hc, bd_s, nI_clamp (show i < 2 ^ 31 by omega), q.1, q.2.1, q.2.2]
      repeat (first | rfl | refine ite_q ?_)
    · unfold dc_X10_investor
      have hm := hr.t
      rw [isI_eq hm hc, bd_s, if_pos h, if_neg (by decide), in_eq, bd_s, rng, x10]
      simp only [hld_eq hm hc, bd_s]
      by_cases b0 : b = 0
      · subst b0
        rw [if_neg (by decide)]
        rw [if_pos rfl, if_pos (inb_nI (by omega) (by decide)), nI_clamp (by omega), hm _ (by omega)]
        rfl
      by_cases b1 : b = 1
      · subst b1
        rw [if_neg (by decide)]
        rw [if_neg (by decide), if_neg (by decide), hld1 hI.1]
        rfl
      by_cases b2 : b = 2
      · subst b2
        rw [if_neg (by decide)]
        rw [if_neg (by decide), if_neg (by decide), hld2 hI.1]
        rfl
      by_cases b3 : b = 3
      · subst b3
        rw [if_neg (by decide)]
        rw [if_neg (by decide), if_neg (by decide), hld3 hI.1]
        rfl
      by_cases b4 : b = 4
      · subst b4
        rw [if_neg (by decide)]
        rw [if_neg (by decide), if_pos (by decide), nI43, if_pos (inb_nI (by omega) (by decide)), nI_clamp (by omega), hm _ (by omega)]
        rfl
      by_cases b5 : b = 5
      · subst b5
        rw [if_neg (by decide)]
        rw [if_neg (by decide), if_pos (by decide), nI53, if_pos (inb_nI (by omega) (by decide)), nI_clamp (by omega), hm _ (by omega)]
        rfl
      have t0 := tne b0 (a := 0) rfl
      have t1 := tne b1 (a := 1) rfl
      have t2 := tne b2 (a := 2) rfl
      have t3 := tne b3 (a := 3) rfl
      have t4 := tne b4 (a := 4) rfl
      have t5 := tne b5 (a := 5) rfl
      rw [if_neg (show ¬ ((0 : Int32).toInt ≤ b.toInt ∧ b.toInt ≤ (5 : Int32).toInt) by rw [show (0 : Int32).toInt = 0 from rfl, show (5 : Int32).toInt = 5 from rfl]; omega), if_pos rfl]
      simp only [b0, b1, b2, b3, b4, b5, if_false]
  · refine Pair.q hI (-1) (fun σ hr => ?_) (fun σ hr => ?_)
    · unfold dc_X9_investor
      rw [hasI_eq hr.1, bd_s, if_neg h, if_pos rfl]
    · unfold dc_X10_investor
      rw [isI_eq hr.t hc, bd_s, if_neg h, if_pos rfl]
theorem q_note {K : Int} {Z : Zt} (hI : InvZ K Z) (a b : Int32) : Pair K Z (dc_X9_note a b) (dc_X10_note a b) := by
  have hc := hI.1.1
  by_cases h : isN Z.1 a
  · obtain ⟨i, hi, rfl⟩ := isN_of hc h
    have hi8 := hc.c.2
    refine Pair.q hI (if b = 0 then Z.1 (144 + 7 * i) else if b = 1 then Z.1 (144 + 7 * i + 1) else if b = 2 then Z.1 (144 + 7 * i + 2) else if b = 3 then Z.1 (144 + 7 * i + 3) else if b = 4 then Z.1 (144 + 7 * i + 4) else if b = 5 then Z.1 (144 + 7 * i + 5) else if b = 6 then Z.1 (144 + 7 * i + 6) else -2) (fun σ hr => ?_) (fun σ hr => ?_)
    · unfold dc_X9_note
      have q := hr.1.2.2.2 i (by omega)
      rw [hasN_eq hr.1, bd_s, if_pos h, if_neg (by decide), if_pos (inb_nI (show i < 60 by omega) (by decide))]
      simp only [nI_clamp (show i < 2 ^ 31 by omega), q.1, q.2.1, q.2.2.1, q.2.2.2.1, q.2.2.2.2.1, q.2.2.2.2.2.1, q.2.2.2.2.2.2]
      repeat (first | rfl | refine ite_q ?_)
    · unfold dc_X10_note
      have hm := hr.t
      rw [isN_eq hm hc, bd_s, if_pos h, if_neg (by decide), in_eq, bd_s, rng]
      by_cases b0 : b = 0
      · subst b0
        rw [if_neg (by decide)]
        rw [on_0 hm (by omega)]
        rfl
      by_cases b1 : b = 1
      · subst b1
        rw [if_neg (by decide)]
        rw [on_1 hm (by omega)]
        rfl
      by_cases b2 : b = 2
      · subst b2
        rw [if_neg (by decide)]
        rw [on_2 hm (by omega)]
        rfl
      by_cases b3 : b = 3
      · subst b3
        rw [if_neg (by decide)]
        rw [on_3 hm (by omega)]
        rfl
      by_cases b4 : b = 4
      · subst b4
        rw [if_neg (by decide)]
        rw [on_4 hm (by omega)]
        rfl
      by_cases b5 : b = 5
      · subst b5
        rw [if_neg (by decide)]
        rw [on_5 hm (by omega)]
        rfl
      by_cases b6 : b = 6
      · subst b6
        rw [if_neg (by decide)]
        rw [on_6 hm (by omega)]
        rfl
      have t0 := tne b0 (a := 0) rfl
      have t1 := tne b1 (a := 1) rfl
      have t2 := tne b2 (a := 2) rfl
      have t3 := tne b3 (a := 3) rfl
      have t4 := tne b4 (a := 4) rfl
      have t5 := tne b5 (a := 5) rfl
      have t6 := tne b6 (a := 6) rfl
      rw [if_neg (show ¬ ((0 : Int32).toInt ≤ b.toInt ∧ b.toInt ≤ (6 : Int32).toInt) by rw [show (0 : Int32).toInt = 0 from rfl, show (6 : Int32).toInt = 6 from rfl]; omega), if_pos rfl]
      simp only [b0, b1, b2, b3, b4, b5, b6, if_false]
  · refine Pair.q hI (-1) (fun σ hr => ?_) (fun σ hr => ?_)
    · unfold dc_X9_note
      rw [hasN_eq hr.1, bd_s, if_neg h, if_pos rfl]
    · unfold dc_X10_note
      rw [isN_eq hr.t hc, bd_s, if_neg h, if_pos rfl]
theorem nof_x {m : Mt} {l : Int32} : nof m l = xnof m l := rfl
theorem q_loan {K : Int} {Z : Zt} (hI : InvZ K Z) (a b : Int32) : Pair K Z (dc_X9_loan a b) (dc_X10_loan a b) := by
  have hc := hI.1.1
  by_cases h : isL Z.1 a
  · obtain ⟨i, hi, rfl⟩ := isL_of hc h
    have hi8 := hc.b.2
    refine Pair.q hI (if b = 0 then Z.1 (34 + 11 * i + 3) else if b = 1 then Z.1 (34 + 11 * i) else if b = 2 then Z.1 (34 + 11 * i + 4) else if b = 3 then Z.1 (34 + 11 * i + 5) else if b = 4 then Z.1 (34 + 11 * i + 6) else if b = 5 then Z.1 (34 + 11 * i + 7) else if b = 6 then Z.1 (34 + 11 * i + 8) else if b = 7 then Z.1 (34 + 11 * i + 9) else if b = 8 then Z.1 (34 + 11 * i + 10) else if b = 9 then msn Z.1 i else if b = 10 then xnof Z.1 (nI i) else if b = 11 then pr Z.1 (nI i) 0 else if b = 12 then pr Z.1 (nI i) 1 else -2) (fun σ hr => ?_) (fun σ hr => ?_)
    · unfold dc_X9_loan
      have q := hr.1.2.2.1 i (by omega)
      rw [hasL_eq hr.1, bd_s, if_pos h, if_neg (by decide), if_pos (inb_nI (show i < 10 by omega) (by decide))]
      simp only [xmsn_eq hr.1 hc hI.1.kin hi, xnof_eq hr.1 hc, xpr_eq hr.1 hc _ 0 (by decide), xpr_eq hr.1 hc _ 1 (by decide), bd_s, nI_clamp (show i < 2 ^ 31 by omega), q.1, q.2.1, q.2.2.1, q.2.2.2.1, q.2.2.2.2.1, q.2.2.2.2.2.1, q.2.2.2.2.2.2.1, q.2.2.2.2.2.2.2.1, q.2.2.2.2.2.2.2.2.1, q.2.2.2.2.2.2.2.2.2.1, q.2.2.2.2.2.2.2.2.2.2]
      repeat (first | rfl | refine ite_q ?_)
    · unfold dc_X10_loan
      have hm := hr.t
      have q := (hI.1.2.2.2.2.2.1 i hi).2.2.2.2.2.2.2.2.2.2.2
      rw [isL_eq hm hc, bd_s, if_pos h, if_neg (by decide)]
      by_cases b0 : b = 0
      · subst b0
        rw [if_pos rfl, of_3 hm (by omega)]
        rfl
      by_cases b1 : b = 1
      · subst b1
        rw [if_neg (by decide), if_pos rfl, of_0 hm (by omega)]
        rfl
      by_cases b2 : b = 2
      · subst b2
        rw [if_neg (by decide), if_neg (by decide), if_pos rfl, runs_eq hm (by omega), bd_s, of_4 hm (by omega)]
        by_cases c1 : Z.1 (34 + 11 * i + 3) = 1
        · rw [if_pos c1, if_neg (by decide)]; rfl
        · rw [if_neg c1, if_pos rfl]
          show some ((0 : Int32), _) = some (Z.1 (34 + 11 * i + 4), _)
          rw [(q c1).1]
      by_cases b3 : b = 3
      · subst b3
        rw [if_neg (by decide), if_neg (by decide), if_neg (by decide), if_pos rfl, show ((3 : Int32) + 2) = 5 from rfl, of_5 hm (by omega)]
        rfl
      by_cases b4 : b = 4
      · subst b4
        rw [if_neg (by decide), if_neg (by decide), if_neg (by decide), if_neg (by decide), if_pos rfl, show ((4 : Int32) + 2) = 6 from rfl, of_6 hm (by omega)]
        rfl
      by_cases b5 : b = 5
      · subst b5
        rw [if_neg (by decide), if_neg (by decide), if_neg (by decide), if_neg (by decide), if_neg (by decide), if_pos rfl, show ((5 : Int32) + 2) = 7 from rfl, of_7 hm (by omega)]
        rfl
      by_cases b6 : b = 6
      · subst b6
        rw [if_neg (by decide), if_neg (by decide), if_neg (by decide), if_neg (by decide), if_neg (by decide), if_neg (by decide), if_pos rfl, show ((6 : Int32) + 2) = 8 from rfl, of_8 hm (by omega)]
        rfl
      by_cases b7 : b = 7
      · subst b7
        rw [if_neg (by decide), if_neg (by decide), if_neg (by decide), if_neg (by decide), if_neg (by decide), if_neg (by decide), if_neg (by decide), if_pos rfl, show ((7 : Int32) + 2) = 9 from rfl, of_9 hm (by omega)]
        rfl
      by_cases b8 : b = 8
      · subst b8
        rw [if_neg (by decide), if_neg (by decide), if_neg (by decide), if_neg (by decide), if_neg (by decide), if_neg (by decide), if_neg (by decide), if_neg (by decide), if_pos rfl, show ((8 : Int32) + 2) = 10 from rfl, of_10 hm (by omega)]
        rfl
      by_cases b9 : b = 9
      · subst b9
        rw [if_neg (by decide), if_neg (by decide), if_neg (by decide), if_neg (by decide), if_neg (by decide), if_neg (by decide), if_neg (by decide), if_neg (by decide), if_neg (by decide), if_pos rfl, msn_eq hm hc (by omega)]
        rfl
      by_cases b10 : b = 10
      · subst b10
        rw [if_neg (by decide), if_neg (by decide), if_neg (by decide), if_neg (by decide), if_neg (by decide), if_neg (by decide), if_neg (by decide), if_neg (by decide), if_neg (by decide), if_neg (by decide), if_pos rfl, nof_eq hm hc]
        rfl
      by_cases b11 : b = 11
      · subst b11
        rw [if_neg (by decide), if_neg (by decide), if_neg (by decide), if_neg (by decide), if_neg (by decide), if_neg (by decide), if_neg (by decide), if_neg (by decide), if_neg (by decide), if_neg (by decide), if_neg (by decide), if_pos rfl, show ((11 : Int32) - 11) = 0 from rfl, pr_eq hm hc]
        rfl
      by_cases b12 : b = 12
      · subst b12
        rw [if_neg (by decide), if_neg (by decide), if_neg (by decide), if_neg (by decide), if_neg (by decide), if_neg (by decide), if_neg (by decide), if_neg (by decide), if_neg (by decide), if_neg (by decide), if_neg (by decide), if_neg (by decide), if_pos rfl, show ((12 : Int32) - 11) = 1 from rfl, pr_eq hm hc]
        rfl
      have t0 := tne b0 (a := 0) rfl
      have t1 := tne b1 (a := 1) rfl
      have t2 := tne b2 (a := 2) rfl
      have t3 := tne b3 (a := 3) rfl
      have t4 := tne b4 (a := 4) rfl
      have t5 := tne b5 (a := 5) rfl
      have t6 := tne b6 (a := 6) rfl
      have t7 := tne b7 (a := 7) rfl
      have t8 := tne b8 (a := 8) rfl
      have t9 := tne b9 (a := 9) rfl
      have t10 := tne b10 (a := 10) rfl
      have t11 := tne b11 (a := 11) rfl
      have t12 := tne b12 (a := 12) rfl
      simp only [b0, b1, b2, b3, b4, b5, b6, b7, b8, b9, b10, b11, b12, if_false]
  · refine Pair.q hI (-1) (fun σ hr => ?_) (fun σ hr => ?_)
    · unfold dc_X9_loan
      rw [hasL_eq hr.1, bd_s, if_neg h, if_pos rfl]
    · unfold dc_X10_loan
      rw [isL_eq hr.t hc, bd_s, if_neg h, if_pos rfl]
theorem q_servicer {K : Int} {Z : Zt} (hI : InvZ K Z) (a b : Int32) : Pair K Z (dc_X9_servicer a b) (dc_X10_servicer a b) := by
  have hc := hI.1.1
  by_cases h : 0 ≤ a.toInt ∧ a.toInt < 4
  · obtain ⟨i, hi, rfl⟩ : ∃ i, i < 4 ∧ a = nI i := ⟨a.toNatClampNeg, by have := clI h.1; omega, nIe h.1⟩
    refine Pair.q hI (if b = 0 then feeI i else if b = 1 then Z.1 (6 + i) else if b = 2 then xsvB Z.1 (nI i) else -2) (fun σ hr => ?_) (fun σ hr => ?_)
    · unfold dc_X9_servicer
      rw [xisS_eq, bd_s, if_pos h, if_neg (by decide)]
      simp only [if_pos (inb_nI (show i < 4 by omega) (by decide)), xsvB_eq hr.1 hc, bd_s, nI_clamp (show i < 2 ^ 31 by omega), hr.1.1.2.2.2.2.2.2 i hi]
      repeat (first | rfl | refine ite_q ?_)
    · unfold dc_X10_servicer
      have hm := hr.t
      rw [isS_eq, bd_s, if_pos h, if_neg (by decide), in_eq, bd_s, rng]
      by_cases b0 : b = 0
      · subst b0
        rw [if_neg (by decide)]
        rw [if_pos rfl, mfee_eq hi]
        rfl
      by_cases b1 : b = 1
      · subst b1
        rw [if_neg (by decide)]
        rw [if_neg (by decide), if_pos rfl, x6, if_pos (inb_nI (by omega) (by decide)), nI_clamp (by omega), hm _ (by omega)]
        rfl
      by_cases b2 : b = 2
      · subst b2
        rw [if_neg (by decide)]
        rw [if_neg (by decide), if_neg (by decide), rnW_eq hm hc]
        rfl
      have t0 := tne b0 (a := 0) rfl
      have t1 := tne b1 (a := 1) rfl
      have t2 := tne b2 (a := 2) rfl
      rw [if_neg (show ¬ ((0 : Int32).toInt ≤ b.toInt ∧ b.toInt ≤ (2 : Int32).toInt) by rw [show (0 : Int32).toInt = 0 from rfl, show (2 : Int32).toInt = 2 from rfl]; omega), if_pos rfl]
      simp only [b0, b1, b2, if_false]
  · refine Pair.q hI (-1) (fun σ hr => ?_) (fun σ hr => ?_)
    · unfold dc_X9_servicer
      rw [xisS_eq, bd_s, if_neg h, if_pos rfl]
    · unfold dc_X10_servicer
      rw [isS_eq, bd_s, if_neg h, if_pos rfl]
theorem q_count {K : Int} {Z : Zt} (hI : InvZ K Z) (b : Int32) : Pair K Z (dc_X9_count b) (dc_X10_count b) := by
  have hc := hI.1.1
  refine Pair.q hI (if b = 0 then Z.1 0 else if b = 1 then Z.1 1 else if b = 2 then Z.1 2 else if b = 3 then xinS Z.1 0 else if b = 4 then xinS Z.1 1 else if b = 5 then xinS Z.1 2 else if b = 6 then xinS Z.1 3 else if b = 7 then xinS Z.1 4 else if b = 8 then Z.1 3 else if b = 9 then Z.1 4 else if b = 10 then Z.1 5 else if b = 11 then xaPr Z.1 else if b = 12 then xaIn Z.1 else if b = 13 then xaLo Z.1 else if b = 14 then xinA Z.1 else if b = 15 then xorS Z.1 else if b = 16 then nI Z.2.1.1 else if b = 17 then nI Z.2.2.2.1 else -2) (fun σ hr => ?_) (fun σ hr => ?_)
  · unfold dc_X9_count
    have q := hr.1.1
    have q2 := hr.2
    by_cases b0 : b = 0
    · subst b0
      rw [if_pos (by decide), if_pos rfl, q.1]
      rfl
    by_cases b1 : b = 1
    · subst b1
      rw [if_pos (by decide), if_neg (by decide), if_pos rfl, q.2.1]
      rfl
    by_cases b2 : b = 2
    · subst b2
      rw [if_pos (by decide), if_neg (by decide), if_neg (by decide), if_pos rfl, q.2.2.1]
      rfl
    by_cases b3 : b = 3
    · subst b3
      rw [if_neg (by decide), if_neg (by decide), show ((3 : Int32) - 3) = 0 from rfl, xinS_eq hr.1 hc]
      rfl
    by_cases b4 : b = 4
    · subst b4
      rw [if_neg (by decide), if_neg (by decide), show ((4 : Int32) - 3) = 1 from rfl, xinS_eq hr.1 hc]
      rfl
    by_cases b5 : b = 5
    · subst b5
      rw [if_neg (by decide), if_neg (by decide), show ((5 : Int32) - 3) = 2 from rfl, xinS_eq hr.1 hc]
      rfl
    by_cases b6 : b = 6
    · subst b6
      rw [if_neg (by decide), if_neg (by decide), show ((6 : Int32) - 3) = 3 from rfl, xinS_eq hr.1 hc]
      rfl
    by_cases b7 : b = 7
    · subst b7
      rw [if_neg (by decide), if_neg (by decide), show ((7 : Int32) - 3) = 4 from rfl, xinS_eq hr.1 hc]
      rfl
    by_cases b8 : b = 8
    · subst b8
      rw [if_neg (by decide), if_pos (by decide), if_neg (by decide), if_neg (by decide), if_neg (by decide), if_neg (by decide), if_neg (by decide), if_neg (by decide), if_neg (by decide), if_neg (by decide), if_pos rfl, q.2.2.2.1]
      rfl
    by_cases b9 : b = 9
    · subst b9
      rw [if_neg (by decide), if_pos (by decide), if_neg (by decide), if_neg (by decide), if_neg (by decide), if_neg (by decide), if_neg (by decide), if_neg (by decide), if_neg (by decide), if_neg (by decide), if_neg (by decide), if_pos rfl, q.2.2.2.2.1]
      rfl
    by_cases b10 : b = 10
    · subst b10
      rw [if_neg (by decide), if_pos (by decide), if_neg (by decide), if_neg (by decide), if_neg (by decide), if_neg (by decide), if_neg (by decide), if_neg (by decide), if_neg (by decide), if_neg (by decide), if_neg (by decide), if_neg (by decide), if_pos rfl, q.2.2.2.2.2.1]
      rfl
    by_cases b11 : b = 11
    · subst b11
      rw [if_neg (by decide), if_pos (by decide), if_neg (by decide), if_neg (by decide), if_neg (by decide), if_neg (by decide), if_neg (by decide), if_neg (by decide), if_neg (by decide), if_neg (by decide), if_neg (by decide), if_neg (by decide), if_neg (by decide), if_pos rfl, xaPr_eq hr.1 hc]
      rfl
    by_cases b12 : b = 12
    · subst b12
      rw [if_neg (by decide), if_pos (by decide), if_neg (by decide), if_neg (by decide), if_neg (by decide), if_neg (by decide), if_neg (by decide), if_neg (by decide), if_neg (by decide), if_neg (by decide), if_neg (by decide), if_neg (by decide), if_neg (by decide), if_neg (by decide), if_pos rfl, xaIn_eq hr.1 hc]
      rfl
    by_cases b13 : b = 13
    · subst b13
      rw [if_neg (by decide), if_pos (by decide), if_neg (by decide), if_neg (by decide), if_neg (by decide), if_neg (by decide), if_neg (by decide), if_neg (by decide), if_neg (by decide), if_neg (by decide), if_neg (by decide), if_neg (by decide), if_neg (by decide), if_neg (by decide), if_neg (by decide), if_pos rfl, xaLo_eq hr.1 hc]
      rfl
    by_cases b14 : b = 14
    · subst b14
      rw [if_neg (by decide), if_pos (by decide), if_neg (by decide), if_neg (by decide), if_neg (by decide), if_neg (by decide), if_neg (by decide), if_neg (by decide), if_neg (by decide), if_neg (by decide), if_neg (by decide), if_neg (by decide), if_neg (by decide), if_neg (by decide), if_neg (by decide), if_neg (by decide), if_pos rfl, xinA_eq hr.1 hc]
      rfl
    by_cases b15 : b = 15
    · subst b15
      rw [if_neg (by decide), if_pos (by decide), if_neg (by decide), if_neg (by decide), if_neg (by decide), if_neg (by decide), if_neg (by decide), if_neg (by decide), if_neg (by decide), if_neg (by decide), if_neg (by decide), if_neg (by decide), if_neg (by decide), if_neg (by decide), if_neg (by decide), if_neg (by decide), if_neg (by decide), if_pos rfl, xorS_eq hr.1 hc]
      rfl
    by_cases b16 : b = 16
    · subst b16
      rw [if_neg (by decide), if_pos (by decide), if_neg (by decide), if_neg (by decide), if_neg (by decide), if_neg (by decide), if_neg (by decide), if_neg (by decide), if_neg (by decide), if_neg (by decide), if_neg (by decide), if_neg (by decide), if_neg (by decide), if_neg (by decide), if_neg (by decide), if_neg (by decide), if_neg (by decide), if_neg (by decide), if_pos rfl, q2.1.1]
      rfl
    by_cases b17 : b = 17
    · subst b17
      rw [if_neg (by decide), if_pos (by decide), if_neg (by decide), if_neg (by decide), if_neg (by decide), if_neg (by decide), if_neg (by decide), if_neg (by decide), if_neg (by decide), if_neg (by decide), if_neg (by decide), if_neg (by decide), if_neg (by decide), if_neg (by decide), if_neg (by decide), if_neg (by decide), if_neg (by decide), if_neg (by decide), if_neg (by decide), if_pos rfl, q2.2.2.2.2.2.2.1.1]
      rfl
    have t0 := tne b0 (a := 0) rfl
    have t1 := tne b1 (a := 1) rfl
    have t2 := tne b2 (a := 2) rfl
    have t3 := tne b3 (a := 3) rfl
    have t4 := tne b4 (a := 4) rfl
    have t5 := tne b5 (a := 5) rfl
    have t6 := tne b6 (a := 6) rfl
    have t7 := tne b7 (a := 7) rfl
    have t8 := tne b8 (a := 8) rfl
    have t9 := tne b9 (a := 9) rfl
    have t10 := tne b10 (a := 10) rfl
    have t11 := tne b11 (a := 11) rfl
    have t12 := tne b12 (a := 12) rfl
    have t13 := tne b13 (a := 13) rfl
    have t14 := tne b14 (a := 14) rfl
    have t15 := tne b15 (a := 15) rfl
    have t16 := tne b16 (a := 16) rfl
    have t17 := tne b17 (a := 17) rfl
    have u : b.toInt < 3 ∨ 7 < b.toInt := by omega
    simp only [tlt b 3, tlt 7 b, show (3 : Int32).toInt = 3 from rfl, show (7 : Int32).toInt = 7 from rfl, b0, b1, b2, b3, b4, b5, b6, b7, b8, b9, b10, b11, b12, b13, b14, b15, b16, b17, if_false]
    rcases u with u | u
    · rw [if_pos u]
    · rw [if_neg (by omega), if_pos u]
  · unfold dc_X10_count
    have hm := hr.t
    have q2 := hr.2
    by_cases b0 : b = 0
    · subst b0
      rw [if_pos rfl, if_pos ib_0, cl_0, hm 0 (by decide)]
      rfl
    by_cases b1 : b = 1
    · subst b1
      rw [if_neg (by decide), if_pos rfl, if_pos ib_1, cl_1, hm 1 (by decide)]
      rfl
    by_cases b2 : b = 2
    · subst b2
      rw [if_neg (by decide), if_neg (by decide), if_pos rfl, if_pos ib_2, cl_2, hm 2 (by decide)]
      rfl
    by_cases b3 : b = 3
    · subst b3
      rw [if_neg (by decide), if_neg (by decide), if_neg (by decide), if_pos rfl, show ((3 : Int32) - 3) = 0 from rfl, inS_eq hm hc]
      rfl
    by_cases b4 : b = 4
    · subst b4
      rw [if_neg (by decide), if_neg (by decide), if_neg (by decide), if_neg (by decide), if_pos rfl, show ((4 : Int32) - 3) = 1 from rfl, inS_eq hm hc]
      rfl
    by_cases b5 : b = 5
    · subst b5
      rw [if_neg (by decide), if_neg (by decide), if_neg (by decide), if_neg (by decide), if_neg (by decide), if_pos rfl, show ((5 : Int32) - 3) = 2 from rfl, inS_eq hm hc]
      rfl
    by_cases b6 : b = 6
    · subst b6
      rw [if_neg (by decide), if_neg (by decide), if_neg (by decide), if_neg (by decide), if_neg (by decide), if_neg (by decide), if_pos rfl, show ((6 : Int32) - 3) = 3 from rfl, inS_eq hm hc]
      rfl
    by_cases b7 : b = 7
    · subst b7
      rw [if_neg (by decide), if_neg (by decide), if_neg (by decide), if_neg (by decide), if_neg (by decide), if_neg (by decide), if_neg (by decide), if_pos rfl, show ((7 : Int32) - 3) = 4 from rfl, inS_eq hm hc]
      rfl
    by_cases b8 : b = 8
    · subst b8
      rw [if_neg (by decide), if_neg (by decide), if_neg (by decide), if_neg (by decide), if_neg (by decide), if_neg (by decide), if_neg (by decide), if_neg (by decide), if_pos rfl, if_pos ib_3, cl_3, hm 3 (by decide)]
      rfl
    by_cases b9 : b = 9
    · subst b9
      rw [if_neg (by decide), if_neg (by decide), if_neg (by decide), if_neg (by decide), if_neg (by decide), if_neg (by decide), if_neg (by decide), if_neg (by decide), if_neg (by decide), if_pos rfl, if_pos ib_4, cl_4, hm 4 (by decide)]
      rfl
    by_cases b10 : b = 10
    · subst b10
      rw [if_neg (by decide), if_neg (by decide), if_neg (by decide), if_neg (by decide), if_neg (by decide), if_neg (by decide), if_neg (by decide), if_neg (by decide), if_neg (by decide), if_neg (by decide), if_pos rfl, if_pos ib_5, cl_5, hm 5 (by decide)]
      rfl
    by_cases b11 : b = 11
    · subst b11
      rw [if_neg (by decide), if_neg (by decide), if_neg (by decide), if_neg (by decide), if_neg (by decide), if_neg (by decide), if_neg (by decide), if_neg (by decide), if_neg (by decide), if_neg (by decide), if_neg (by decide), if_pos rfl, smO_eq hm hc, bd_s, smO11 hI.1]
      rfl
    by_cases b12 : b = 12
    · subst b12
      rw [if_neg (by decide), if_neg (by decide), if_neg (by decide), if_neg (by decide), if_neg (by decide), if_neg (by decide), if_neg (by decide), if_neg (by decide), if_neg (by decide), if_neg (by decide), if_neg (by decide), if_neg (by decide), if_pos rfl, smO_eq hm hc, bd_s, smO12]
      rfl
    by_cases b13 : b = 13
    · subst b13
      rw [if_neg (by decide), if_neg (by decide), if_neg (by decide), if_neg (by decide), if_neg (by decide), if_neg (by decide), if_neg (by decide), if_neg (by decide), if_neg (by decide), if_neg (by decide), if_neg (by decide), if_neg (by decide), if_neg (by decide), if_pos rfl, los_eq hm hc]
      rfl
    by_cases b14 : b = 14
    · subst b14
      rw [if_neg (by decide), if_neg (by decide), if_neg (by decide), if_neg (by decide), if_neg (by decide), if_neg (by decide), if_neg (by decide), if_neg (by decide), if_neg (by decide), if_neg (by decide), if_neg (by decide), if_neg (by decide), if_neg (by decide), if_neg (by decide), if_pos rfl, inA_eq hm hc, bd_s, inA_x hI.1]
      rfl
    by_cases b15 : b = 15
    · subst b15
      rw [if_neg (by decide), if_neg (by decide), if_neg (by decide), if_neg (by decide), if_neg (by decide), if_neg (by decide), if_neg (by decide), if_neg (by decide), if_neg (by decide), if_neg (by decide), if_neg (by decide), if_neg (by decide), if_neg (by decide), if_neg (by decide), if_neg (by decide), if_pos rfl, smO_eq hm hc, bd_s, smO15]
      rfl
    by_cases b16 : b = 16
    · subst b16
      rw [if_neg (by decide), if_neg (by decide), if_neg (by decide), if_neg (by decide), if_neg (by decide), if_neg (by decide), if_neg (by decide), if_neg (by decide), if_neg (by decide), if_neg (by decide), if_neg (by decide), if_neg (by decide), if_neg (by decide), if_neg (by decide), if_neg (by decide), if_neg (by decide), if_pos rfl, up_ne (by decide), q2.1.1]
      rfl
    by_cases b17 : b = 17
    · subst b17
      rw [if_neg (by decide), if_neg (by decide), if_neg (by decide), if_neg (by decide), if_neg (by decide), if_neg (by decide), if_neg (by decide), if_neg (by decide), if_neg (by decide), if_neg (by decide), if_neg (by decide), if_neg (by decide), if_neg (by decide), if_neg (by decide), if_neg (by decide), if_neg (by decide), if_neg (by decide), if_pos rfl, up_ne (by decide), q2.2.2.2.2.1.1]
      rfl
    have t0 := tne b0 (a := 0) rfl
    have t1 := tne b1 (a := 1) rfl
    have t2 := tne b2 (a := 2) rfl
    have t3 := tne b3 (a := 3) rfl
    have t4 := tne b4 (a := 4) rfl
    have t5 := tne b5 (a := 5) rfl
    have t6 := tne b6 (a := 6) rfl
    have t7 := tne b7 (a := 7) rfl
    have t8 := tne b8 (a := 8) rfl
    have t9 := tne b9 (a := 9) rfl
    have t10 := tne b10 (a := 10) rfl
    have t11 := tne b11 (a := 11) rfl
    have t12 := tne b12 (a := 12) rfl
    have t13 := tne b13 (a := 13) rfl
    have t14 := tne b14 (a := 14) rfl
    have t15 := tne b15 (a := 15) rfl
    have t16 := tne b16 (a := 16) rfl
    have t17 := tne b17 (a := 17) rfl
    simp only [b0, b1, b2, b3, b4, b5, b6, b7, b8, b9, b10, b11, b12, b13, b14, b15, b16, b17, if_false]
