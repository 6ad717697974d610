/-! the reference pays interest and principal -/
def nil : Gf := fun _ => 0
theorem x10_1 (i : Nat) : ((10 : Int32) + (3 : Int32) * nI i) + (1 : Int32) = nI (10 + 3 * i + 1) := by rw [x10]; exact nI_add _ 1
theorem x10_2 (i : Nat) : ((10 : Int32) + (3 : Int32) * nI i) + (2 : Int32) = nI (10 + 3 * i + 2) := by rw [x10]; exact nI_add _ 2
theorem coJ_0 {m : Mt} {gi gp : Gf} : coJ m gi gp 0 = m := funext (plc (fun k h1 h2 => coJ_out h1 h2) (fun i hi => by rw [coJ_c hi]; exact Int32.add_zero _) (fun i hi => by rw [coJ_i hi]; exact Int32.add_zero _) (fun i hi => coJ_l hi) (fun n w hw => coJ_nj hw (Nat.zero_le n)))
theorem coJ_j0 {m : Mt} {gi gp : Gf} {j n : Nat} : coJ m gi gp j (144 + 7 * n) = m (144 + 7 * n) := coJ_nx (w := 0) (by omega) (by omega) (by omega)
theorem coJ_hd {m : Mt} {gi gp : Gf} {j : Nat} (h : Hd m) : Hd (coJ m gi gp j) := fun n hn => by
  unfold nc at hn
  rw [coJ_123.2.2] at hn
  unfold isI
  rw [coJ_j0, coJ_123.1]
  exact h n hn
theorem CI_st {m : Mt} {g : Gf} {C : Nat → Int} {i j : Nat} (hi : i < 8) (he : m (144 + 7 * j) = nI i) (i' : Nat) (hi' : i' < 8) : (if i' = i then C i' + CI m g i' j + (g j).toInt else C i' + CI m g i' j) = C i' + CI m g i' (j + 1) := by
  rw [CI_succ]
  by_cases e : i' = i
  · rw [if_pos e, e, if_pos he]; omega
  · rw [if_neg e, if_neg (by rw [he, nI_eq (by omega) (by omega)]; exact fun z => e z.symm)]; omega
theorem payI_m {σ : Sto} {Z : Zt} {E : Mt} {C : Nat → Int} (h : RS σ Z E C) (hc : Cnt E) (hh : Hd E) (hp : Pb E) (l : Int32) {c : Int32} (hcb : 0 ≤ c.toInt ∧ c.toInt ≤ 1000000) : ∃ τ, dc_X10_payInterest l c σ = some τ ∧ RS τ Z (coJ E (sh c (wt E l 2)) nil (nc E)) (fun i => C i + CI E (sh c (wt E l 2)) i (nc E)) ∧ SameC σ τ := by
  obtain ⟨h3, hn⟩ := hc.c
  have ha := hc.a.2
  obtain ⟨σ1, a1, a2, a3, a4⟩ := h.ws hc hp l 2
  obtain ⟨σ2, b1, b2, b3, b4⟩ := a4 c (by omega)
  unfold dc_X10_payInterest
  rw [a1, bd_s, b1, bv_s]
  refine wh1_inv (T := fun o => ∃ τ, o = some τ ∧ RS τ Z (coJ E (sh c (wt E l 2)) nil (nc E)) (fun i => C i + CI E (sh c (wt E l 2)) i (nc E)) ∧ SameC σ τ) (fun j τ => RS τ Z (coJ E (sh c (wt E l 2)) nil j) (fun i => C i + CI E (sh c (wt E l 2)) i j) ∧ SameC σ τ ∧ τ.1 400 = σ2.1 400) (nc E) (by omega) (fun j τ hj hP => ?_) (fun τ hP rec => ?_) ⟨b2.congr (fun k _ => by rw [coJ_0]) (fun i _ => by show C i = C i + 0; omega), a3.trans b3, rfl⟩
  · obtain ⟨p1, p2, p3⟩ := hP
    obtain ⟨i, hi, he⟩ := isI_of hc (hh j hj)
    obtain ⟨g, hg⟩ : ∃ g, g = sh c (wt E l 2) := ⟨_, rfl⟩
    rw [← hg] at p1 b4 ⊢
    have g0 : 0 ≤ (g j).toInt := by rw [hg]; exact (sh_b (n := j) (wt_ok hp l 2) (c := c) (by omega) (by omega)).1
    have e4 : τ.1 400 0 j = g j := by rw [p3]; exact b4 j hj
    have ej : coJ E g nil j (144 + 7 * j + 0) = nI i := coJ_j0.trans he
    obtain ⟨τ1, t1, t2, t3⟩ := p1.pay (i := i) (by omega) g0
    have e4' : τ1.1 400 0 j = g j := by rw [t3.2.2]; exact e4
    have ej1 : upd (coJ E g nil j) (10 + 3 * i) (coJ E g nil j (10 + 3 * i) + g j) (144 + 7 * j + 0) = nI i := by rw [upd_ne (by omega)]; exact ej
    have er : τ1.1 304 0 (10 + 3 * i + 1) = coJ E g nil j (10 + 3 * i + 1) := by
      rw [t2.read (k := 10 + 3 * i + 1) (by omega) (fun z => by have := z.2.2; omega), upd_ne (by omega)]
    have t4 := t2.set (k := 10 + 3 * i + 1) (v := coJ E g nil j (10 + 3 * i + 1) + g j) (fun z => by have := z.2.2; omega)
    have t5 := t4.set (k := 144 + 7 * j + 5) (v := upd (upd (coJ E g nil j) (10 + 3 * i) (coJ E g nil j (10 + 3 * i) + g j)) (10 + 3 * i + 1) (coJ E g nil j (10 + 3 * i + 1) + g j) (144 + 7 * j + 5) + g j) (nCash (by omega))
    refine ⟨_, ⟨t5.congr (fun k _ => ?_) (fun i' hi' => ?_), p2.trans (t3.1.trans (SameC.trans (SameC_up (f := 304) rfl) (SameC_up (f := 304) rfl))), ?_⟩, fun rec => ?_⟩
    · rw [coJ_step (by omega) he]
      simp only [upd, nil, Int32.add_zero, Int32.sub_zero]
      by_cases k1 : k = 10 + 3 * i
      · subst k1
        simp (disch := omega) only [if_pos, if_neg, if_true]
      · by_cases k2 : k = 10 + 3 * i + 1
        · subst k2
          simp (disch := omega) only [if_pos, if_neg, if_true]
        · by_cases k3 : k = 144 + 7 * j + 3
          · subst k3
            simp (disch := omega) only [if_pos, if_neg, if_true]
          · by_cases k5 : k = 144 + 7 * j + 5
            · subst k5
              simp (disch := omega) only [if_pos, if_neg, if_true]
            · simp only [k1, k2, k3, k5, if_false]
    · exact CI_st (by omega) he i' hi'
    · rw [up_f (by decide), up_f (by decide), t3.2.2]; exact p3
    · rw [if_pos ib_3, cl_3, p1.read (by omega) (nCash (by omega)), coJ_123.2.2, h3, if_neg (by rw [nI_leI (by omega) (by omega)]; omega), show (0 : Int32) = nI 0 from rfl, p1.on (by omega) (by omega), bd_s, ej, if_pos (inb_nI (show j < 60 by omega) (by decide)), nI_clamp (show j < 2 ^ 31 by omega), e4, t1, bv_s, t2.on (by omega) (by omega), bd_s, ej1, x10_1, if_pos (inb_nI (show 10 + 3 * i + 1 < 564 by omega) (by decide)), if_pos (inb_nI (show j < 60 by omega) (by decide)), if_pos (inb_nI (show 10 + 3 * i + 1 < 564 by omega) (by decide)), if_pos (inb_nI (show j < 60 by omega) (by decide)), nI_clamp (show 10 + 3 * i + 1 < 2 ^ 31 by omega), e4', er, up_ne (by decide), e4', show (5 : Int32) = nI 5 from rfl, t4.mo (by omega) (by omega), bv_s, nI_1]
  · obtain ⟨p1, p2, p3⟩ := hP
    rw [if_pos ib_3, cl_3, p1.read (by omega) (nCash (by omega)), coJ_123.2.2, h3, if_pos (by rw [nI_leI (by omega) (by omega)]; omega)]
    exact ⟨τ, rfl, p1, p2⟩
def mn (a b : Int32) : Int32 := if a ≤ b then a else b
theorem mn_b {a b : Int32} : (mn a b).toInt ≤ a.toInt ∧ (mn a b).toInt ≤ b.toInt ∧ ((mn a b).toInt = a.toInt ∨ (mn a b).toInt = b.toInt) := by
  unfold mn
  by_cases c : a ≤ b
  · rw [if_pos c]; rw [tle] at c; omega
  · rw [if_neg c]; rw [tle] at c; omega
theorem pr_b {E : Mt} (hc : Cnt E) (hp : Pb E) (l s : Int32) : 0 ≤ (pr E l s).toInt ∧ (pr E l s).toInt ≤ 5999940 := by
  rw [pr_tot hc hp]; exact (wt_ok hp l s).s
theorem payP_m {σ : Sto} {Z : Zt} {E : Mt} {C : Nat → Int} (h : RS σ Z E C) (hc : Cnt E) (hh : Hd E) (hp : Pb E) (l s : Int32) {c : Int32} (hcb : 0 ≤ c.toInt) : ∃ τ, dc_X10_payPrincipal l s c σ = some (c - mn (pr E l s) c, τ) ∧ RS τ Z (coJ E nil (sh (mn (pr E l s) c) (wt E l s)) (nc E)) (fun i => C i + CI E (sh (mn (pr E l s) c) (wt E l s)) i (nc E)) ∧ SameC σ τ := by
  obtain ⟨h3, hn⟩ := hc.c
  have ha := hc.a.2
  have hb := pr_b hc hp l s
  have hm := mn_b (a := pr E l s) (b := c)
  obtain ⟨v, hv⟩ : ∃ v, v = mn (pr E l s) c := ⟨_, rfl⟩
  rw [← hv] at hm ⊢
  have hvb : 0 ≤ v.toInt ∧ v.toInt ≤ 1000000000 := by omega
  obtain ⟨σ1, a1, a2, a3, a4⟩ := h.ws hc hp l s
  obtain ⟨σ2, b1, b2, b3, b4⟩ := a4 v hvb
  have kj : ∀ K : Int32 → Option (Int32 × Sto), jn K (fun k4 => if pr E l s ≤ c then k4 (pr E l s) else k4 c) = K v := fun K => by
    show (if pr E l s ≤ c then K (pr E l s) else K c) = K v
    rw [hv]
    unfold mn
    by_cases d : pr E l s ≤ c
    · rw [if_pos d, if_pos d]
    · rw [if_neg d, if_neg d]
  unfold dc_X10_payPrincipal
  rw [a1, bd_s, kj, b1, bv_s]
  refine wh1_inv (T := fun o => ∃ τ, o = some (c - v, τ) ∧ RS τ Z (coJ E nil (sh v (wt E l s)) (nc E)) (fun i => C i + CI E (sh v (wt E l s)) i (nc E)) ∧ SameC σ τ) (fun j τ => RS τ Z (coJ E nil (sh v (wt E l s)) j) (fun i => C i + CI E (sh v (wt E l s)) i j) ∧ SameC σ τ ∧ τ.1 400 = σ2.1 400) (nc E) (by omega) (fun j τ hj hP => ?_) (fun τ hP rec => ?_) ⟨b2.congr (fun k _ => by rw [coJ_0]) (fun i _ => by show C i = C i + 0; omega), a3.trans b3, rfl⟩
  · obtain ⟨p1, p2, p3⟩ := hP
    obtain ⟨i, hi, he⟩ := isI_of hc (hh j hj)
    obtain ⟨g, hg⟩ : ∃ g, g = sh v (wt E l s) := ⟨_, rfl⟩
    rw [← hg] at p1 b4 ⊢
    have g0 : 0 ≤ (g j).toInt := by rw [hg]; exact (sh_b (n := j) (wt_ok hp l s) (c := v) hvb (by omega)).1
    have e4 : τ.1 400 0 j = g j := by rw [p3]; exact b4 j hj
    have ej : coJ E nil g j (144 + 7 * j + 0) = nI i := coJ_j0.trans he
    obtain ⟨τ1, t1, t2, t3⟩ := p1.pay (i := i) (by omega) g0
    have e4' : τ1.1 400 0 j = g j := by rw [t3.2.2]; exact e4
    have t5 := t2.set (k := 144 + 7 * j + 3) (v := upd (coJ E nil g j) (10 + 3 * i) (coJ E nil g j (10 + 3 * i) + g j) (144 + 7 * j + 3) + -g j) (nCash (by omega))
    refine ⟨_, ⟨t5.congr (fun k _ => ?_) (fun i' hi' => ?_), p2.trans (t3.1.trans (SameC_up (f := 304) rfl)), ?_⟩, fun rec => ?_⟩
    · rw [coJ_step (by omega) he]
      simp only [upd, nil, Int32.add_zero, Int32.zero_add, ← Int32.sub_eq_add_neg]
      by_cases k1 : k = 10 + 3 * i
      · subst k1
        simp (disch := omega) only [if_pos, if_neg, if_true]
      · by_cases k2 : k = 10 + 3 * i + 1
        · subst k2
          simp (disch := omega) only [if_pos, if_neg, if_true]
        · by_cases k3 : k = 144 + 7 * j + 3
          · subst k3
            simp (disch := omega) only [if_pos, if_neg, if_true]
          · by_cases k5 : k = 144 + 7 * j + 5
            · subst k5
              simp (disch := omega) only [if_pos, if_neg, if_true]
            · simp only [k1, k2, k3, k5, if_false]
    · exact CI_st (by omega) he i' hi'
    · rw [up_f (by decide), t3.2.2]; exact p3
    · rw [if_pos ib_3, cl_3, p1.read (by omega) (nCash (by omega)), coJ_123.2.2, h3, if_neg (by rw [nI_leI (by omega) (by omega)]; omega), show (0 : Int32) = nI 0 from rfl, p1.on (by omega) (by omega), bd_s, ej, if_pos (inb_nI (show j < 60 by omega) (by decide)), nI_clamp (show j < 2 ^ 31 by omega), e4, t1, bv_s, if_pos (inb_nI (show j < 60 by omega) (by decide)), e4', show (3 : Int32) = nI 3 from rfl, t2.mo (by omega) (by omega), bv_s, nI_1]
  · obtain ⟨p1, p2, p3⟩ := hP
    rw [if_pos ib_3, cl_3, p1.read (by omega) (nCash (by omega)), coJ_123.2.2, h3, if_pos (by rw [nI_leI (by omega) (by omega)]; omega)]
    exact ⟨τ, rfl, p1, p2⟩
