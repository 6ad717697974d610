/-! what is lost -/
def woJ (E : Mt) (l j : Nat) : Mt := fun k =>
  if 10 ≤ k ∧ k < 34 then (if (k - 10) % 3 = 2 then E k + sG E (wt E (nI l) 2) ((k - 10) / 3) j else E k)
  else if 144 ≤ k ∧ (k - 144) / 7 < j ∧ E (144 + 7 * ((k - 144) / 7) + 1) = nI l then (if (k - 144) % 7 = 3 then 0 else if (k - 144) % 7 = 6 then E (144 + 7 * ((k - 144) / 7) + 3) else E k) else E k
theorem wo_out {E : Mt} {l j k : Nat} (h1 : ¬ (10 ≤ k ∧ k < 34)) (h2 : k < 144) : woJ E l j k = E k := by
  unfold woJ
  rw [if_neg h1, if_neg (by omega)]
theorem wo_c {E : Mt} {l j i : Nat} (hi : i < 8) : woJ E l j (10 + 3 * i) = E (10 + 3 * i) := by
  unfold woJ
  rw [if_pos (by omega), if_neg (by omega)]
theorem wo_i {E : Mt} {l j i : Nat} (hi : i < 8) : woJ E l j (10 + 3 * i + 1) = E (10 + 3 * i + 1) := by
  unfold woJ
  rw [if_pos (by omega), if_neg (by omega)]
theorem wo_l {E : Mt} {l j i : Nat} (hi : i < 8) : woJ E l j (10 + 3 * i + 2) = E (10 + 3 * i + 2) + sG E (wt E (nI l) 2) i j := by
  unfold woJ
  rw [if_pos (by omega), if_pos (by omega), show (10 + 3 * i + 2 - 10) / 3 = i by omega]
theorem wo_n {E : Mt} {l j n w : Nat} (hw : w < 7) : woJ E l j (144 + 7 * n + w) = if n < j ∧ E (144 + 7 * n + 1) = nI l then (if w = 3 then 0 else if w = 6 then E (144 + 7 * n + 3) else E (144 + 7 * n + w)) else E (144 + 7 * n + w) := by
  unfold woJ
  rw [if_neg (by omega)]
  have e1 : (144 + 7 * n + w - 144) / 7 = n := by omega
  have e2 : (144 + 7 * n + w - 144) % 7 = w := by omega
  rw [e1, e2]
  by_cases c : n < j ∧ E (144 + 7 * n + 1) = nI l
  · rw [if_pos ⟨by omega, c⟩, if_pos c]
  · rw [if_neg (fun z => c z.2), if_neg c]
theorem wo_nx {E : Mt} {l j n w : Nat} (hw : w < 7) (h3 : w ≠ 3) (h6 : w ≠ 6) : woJ E l j (144 + 7 * n + w) = E (144 + 7 * n + w) := by
  rw [wo_n hw, if_neg h3, if_neg h6]
  by_cases c : n < j ∧ E (144 + 7 * n + 1) = nI l
  · rw [if_pos c]
  · rw [if_neg c]
theorem wo_nj {E : Mt} {l j n w : Nat} (hw : w < 7) (h : j ≤ n) : woJ E l j (144 + 7 * n + w) = E (144 + 7 * n + w) := by rw [wo_n hw, if_neg (by omega)]
theorem wo_0 {E : Mt} {l : Nat} : woJ E l 0 = E := funext (plc (fun k h1 h2 => wo_out h1 h2) (fun i hi => wo_c hi) (fun i hi => wo_i hi) (fun i hi => by rw [wo_l hi]; exact Int32.add_zero _) (fun n w hw => wo_nj hw (Nat.zero_le n)))
theorem wo_step {E : Mt} {l j i : Nat} (hj : j < nc E) (hi : i < 8) (he : E (144 + 7 * j) = nI i) (hl : E (144 + 7 * j + 1) = nI l) (k : Nat) : woJ E l (j + 1) k = upd (upd (upd (woJ E l j) (144 + 7 * j + 6) (E (144 + 7 * j + 3))) (144 + 7 * j + 3) 0) (10 + 3 * i + 2) (woJ E l j (10 + 3 * i + 2) + E (144 + 7 * j + 3)) k := by
  have ew : wt E (nI l) 2 j = E (144 + 7 * j + 3) := if_pos ⟨hj, hl, Or.inl rfl⟩
  revert k
  refine plc (fun k h1 h2 => ?_) (fun i' hi' => ?_) (fun i' hi' => ?_) (fun i' hi' => ?_) (fun n w hw => ?_)
  · rw [upd_ne (by omega), upd_ne (by omega), upd_ne (by omega), wo_out h1 h2, wo_out h1 h2]
  · rw [upd_ne (by omega), upd_ne (by omega), upd_ne (by omega), wo_c hi', wo_c hi']
  · rw [upd_ne (by omega), upd_ne (by omega), upd_ne (by omega), wo_i hi', wo_i hi']
  · rw [wo_l hi', sG_succ]
    by_cases e : i' = i
    · rw [e, upd_eq, if_pos he, wo_l hi, ew, Int32.add_assoc]
    · rw [upd_ne (by omega), upd_ne (by omega), upd_ne (by omega), wo_l hi', if_neg (by rw [he, nI_eq (by omega) (by omega)]; exact fun z => e z.symm)]
  · rw [upd_ne (by omega)]
    by_cases e : n = j
    · subst e
      rw [wo_n hw, if_pos ⟨Nat.lt_succ_self n, hl⟩]
      by_cases w3 : w = 3
      · rw [w3, if_pos rfl, upd_eq]
      · rw [if_neg w3, upd_ne (by omega)]
        by_cases w6 : w = 6
        · rw [w6, if_pos rfl, upd_eq]
        · rw [if_neg w6, upd_ne (by omega), wo_nj hw (Nat.le_refl n)]
    · rw [upd_ne (by omega), upd_ne (by omega), wo_n hw, wo_n hw]
      by_cases c : n < j ∧ E (144 + 7 * n + 1) = nI l
      · rw [if_pos c, if_pos ⟨by omega, c.2⟩]
      · rw [if_neg c, if_neg (fun z => c ⟨by omega, z.2⟩)]
theorem wo_skip {E : Mt} {l j : Nat} (hl : ¬ E (144 + 7 * j + 1) = nI l) (k : Nat) : woJ E l (j + 1) k = woJ E l j k := by
  have ew : wt E (nI l) 2 j = 0 := if_neg fun z => hl z.2.1
  revert k
  refine plc (fun k h1 h2 => by rw [wo_out h1 h2, wo_out h1 h2]) (fun i hi => by rw [wo_c hi, wo_c hi]) (fun i hi => by rw [wo_i hi, wo_i hi]) (fun i hi => ?_) (fun n w hw => ?_)
  · rw [wo_l hi, wo_l hi, sG_succ, ew]
    by_cases c : E (144 + 7 * j) = nI i
    · rw [if_pos c, Int32.add_zero]
    · rw [if_neg c]
  · rw [wo_n hw, wo_n hw]
    by_cases e : n = j
    · subst e
      rw [if_neg (fun z => hl z.2), if_neg (fun z => hl z.2)]
    · by_cases c : n < j ∧ E (144 + 7 * n + 1) = nI l
      · rw [if_pos c, if_pos ⟨by omega, c.2⟩]
      · rw [if_neg c, if_neg (fun z => c ⟨by omega, z.2⟩)]
theorem wo_cnt {E : Mt} {l j : Nat} (hc : Cnt E) : Cnt (woJ E l j) := hc.same (wo_out (by omega) (by omega)) (wo_out (by omega) (by omega)) (wo_out (by omega) (by omega))
/-- all that is lost -/
def wsm (E : Mt) (l j : Nat) : Int32 := itN (fun n x => if E (144 + 7 * n + 1) = nI l then x + E (144 + 7 * n + 3) else x) 0 j 0
theorem wsm_succ {E : Mt} {l j : Nat} : wsm E l (j + 1) = if E (144 + 7 * j + 1) = nI l then wsm E l j + E (144 + 7 * j + 3) else wsm E l j := by
  unfold wsm
  rw [itN_succ, Nat.zero_add]
theorem wo_c9 {σ : Sto} {E : Mt} {l : Nat} (hr : Cla σ 0 E) (hc : Cnt E) (hh : Hd E) : ∃ τ, dc_X5_writeOff 0 (nI l) σ = some (wsm E l (nc E), τ) ∧ FrJ 0 σ τ ∧ Cla τ 0 (woJ E l (nc E)) := by
  obtain ⟨h3, hn⟩ := hc.c
  have ha := hc.a.2
  have w3 : ∀ j, woJ E l j 3 = E 3 := fun j => wo_out (by omega) (by omega)
  unfold dc_X5_writeOff
  refine wh2_inv (T := fun o => ∃ τ, o = some (wsm E l (nc E), τ) ∧ FrJ 0 σ τ ∧ Cla τ 0 (woJ E l (nc E))) (fun j x τ => x = wsm E l j ∧ FrJ 0 σ τ ∧ Cla τ 0 (woJ E l j)) (nc E) (by omega) (fun j x τ hj hP => ?_) (fun x τ hP rec => ?_) ⟨rfl, FrJ.refl 0 σ, by rw [wo_0]; exact hr⟩
  · obtain ⟨p0, p1, p2⟩ := hP
    obtain ⟨i, hi, he⟩ := isI_of hc (hh j hj)
    have q := p2.2.2.2 j (by omega)
    have q0 : τ.1 96 0 j = nI i := q.1.trans ((wo_nx (w := 0) (by omega) (by omega) (by omega)).trans he)
    have q1 : τ.1 97 0 j = E (144 + 7 * j + 1) := q.2.1.trans (wo_nx (by omega) (by omega) (by omega))
    have q3 : τ.1 99 0 j = E (144 + 7 * j + 3) := q.2.2.2.1.trans (wo_nj (by omega) (Nat.le_refl j))
    have q50 : τ.1 50 0 i = woJ E l j (10 + 3 * i + 2) := (p2.2.1 i (by omega)).2.2
    have hpre : ¬ τ.1 86 0 0 ≤ nI j := by rw [p2.1.2.2.2.1, w3, h3, nI_leI (by omega) (by omega)]; omega
    by_cases d : E (144 + 7 * j + 1) = nI l
    · have c2 := Cla_up99 (v := 0) (n0 := j) (by omega) (Cla_up102 (v := E (144 + 7 * j + 3)) (n0 := j) (by omega) p2)
      have c3 := Cla_up50 (v := woJ E l j (10 + 3 * i + 2) + E (144 + 7 * j + 3)) (i0 := i) (by omega) c2
      rw [← funext (wo_step (E := E) (l := l) (j := j) (i := i) hj (by omega) he d)] at c3
      have hI2 : isI (upd (upd (woJ E l j) (144 + 7 * j + 6) (E (144 + 7 * j + 3))) (144 + 7 * j + 3) 0) (nI i) := by
        unfold isI
        rw [upd_ne (by omega), upd_ne (by omega), wo_out (by omega) (by omega)]
        exact isI_nI hc hi
      refine ⟨x + E (144 + 7 * j + 3), _, ⟨by rw [wsm_succ, if_pos d, p0], FrJ_up rfl (FrJ_up rfl (FrJ_up rfl p1)), c3⟩, fun rec => ?_⟩
      rw [if_neg hpre, if_pos (inb_nI (show j < 60 by omega) (by decide)), nI_clamp (show j < 2 ^ 31 by omega), q1, if_pos d, q3]
      simp only [lt]
      simp (disch := decide) only [up_ne]
      rw [q0, hasI_eq c2, bd_s, if_pos hI2, if_neg (by decide)]
      simp (disch := decide) only [up_ne, up_eq]
      rw [q0, if_pos (inb_nI (show i < 8 by omega) (by decide)), nI_clamp (show i < 2 ^ 31 by omega), q50, nI_1]
    · refine ⟨x, τ, ⟨by rw [wsm_succ, if_neg d, p0], p1, by rw [funext (wo_skip d)]; exact p2⟩, fun rec => ?_⟩
      rw [if_neg hpre, if_pos (inb_nI (show j < 60 by omega) (by decide)), nI_clamp (show j < 2 ^ 31 by omega), q1, if_neg d, nI_1]
  · obtain ⟨p0, p1, p2⟩ := hP
    rw [p2.1.2.2.2.1, w3, h3, if_pos (by rw [nI_leI (by omega) (by omega)]; omega), p0]
    exact ⟨τ, rfl, p1, p2⟩
theorem wo_m {σ : Sto} {Z : Zt} {E : Mt} {C : Nat → Int} {l : Nat} (h : RS σ Z E C) (hl : l < 10) (hc : Cnt E) (hh : Hd E) (h6 : ∀ n, n < nc E → E (144 + 7 * n + 1) = nI l → E (144 + 7 * n + 6) = 0) : ∃ τ, RS τ Z (endM (woJ E l (nc E)) l 3) C ∧ SameC σ τ ∧ wh2 (fun (rec17 : Int32 → Int32 → Sto → Option (Int32 × Sto)) (x19 : Int32) (x20 : Int32) (σ18 : Sto) => (if inb (3 : Int32) 564 then (if (σ18.1 304 0 (3 : Int32).toNatClampNeg) ≤ x20 then (bv (dc_X10_be (nI l) (4 : Int32) (0 : Int32) σ18) fun σ22 => (bv (dc_X10_be (nI l) (6 : Int32) (0 : Int32) σ22) fun σ24 => (bv (dc_X10_be (nI l) (7 : Int32) (0 : Int32) σ24) fun σ26 => (bv (dc_X10_ends (nI l) (3 : Int32) σ26) fun σ28 => (bd (dc_X10_acted x19 σ28) fun r29 σ30 => some (r29, σ30)))))) else (bd (dc_X10_ofNote x20 (1 : Int32) σ18) fun r31 σ32 => (if r31 = (nI l) then (bd (dc_X10_ofNote x20 (3 : Int32) σ32) fun r33 σ34 => (bv (dc_X10_more x20 (6 : Int32) r33 σ34) fun σ36 => (bv (dc_X10_more x20 (3 : Int32) (-r33) σ36) fun σ38 => (bd (dc_X10_ofNote x20 (0 : Int32) σ38) fun r39 σ40 => (if inb (((10 : Int32) + ((3 : Int32) * r39)) + (2 : Int32)) 564 then (if inb (((10 : Int32) + ((3 : Int32) * r39)) + (2 : Int32)) 564 then rec17 (x19 + r33) (x20 + 1) (up σ40 304 0 (((10 : Int32) + ((3 : Int32) * r39)) + (2 : Int32)).toNatClampNeg ((σ40.1 304 0 (((10 : Int32) + ((3 : Int32) * r39)) + (2 : Int32)).toNatClampNeg) + r33)) else none) else none))))) else rec17 x19 (x20 + 1) σ32))) else none)) FU (0 : Int32) (0 : Int32) σ = (bd (dc_X10_acted (wsm E l (nc E)) τ) fun r29 σ30 => some (r29, σ30)) := by
  obtain ⟨h3, hn⟩ := hc.c
  have ha := hc.a.2
  have w3 : ∀ j, woJ E l j 3 = E 3 := fun j => wo_out (by omega) (by omega)
  refine wh2_inv (T := fun o => ∃ τ, RS τ Z (endM (woJ E l (nc E)) l 3) C ∧ SameC σ τ ∧ o = (bd (dc_X10_acted (wsm E l (nc E)) τ) fun r29 σ30 => some (r29, σ30))) (fun j x τ => x = wsm E l j ∧ RS τ Z (woJ E l j) C ∧ SameC σ τ) (nc E) (by omega) (fun j x τ hj hP => ?_) (fun x τ hP rec => ?_) ⟨rfl, h.congr (fun k _ => by rw [wo_0]) (fun _ _ => rfl), SameC.refl σ⟩
  · obtain ⟨p0, p1, p2⟩ := hP
    obtain ⟨i, hi, he⟩ := isI_of hc (hh j hj)
    have e0 : woJ E l j (144 + 7 * j + 0) = nI i := (wo_nx (by omega) (by omega) (by omega)).trans he
    have e1 : woJ E l j (144 + 7 * j + 1) = E (144 + 7 * j + 1) := wo_nx (by omega) (by omega) (by omega)
    have e3 : woJ E l j (144 + 7 * j + 3) = E (144 + 7 * j + 3) := wo_nj (by omega) (Nat.le_refl j)
    have e6 : woJ E l j (144 + 7 * j + 6) = E (144 + 7 * j + 6) := wo_nj (by omega) (Nat.le_refl j)
    by_cases d : E (144 + 7 * j + 1) = nI l
    · have t1 := p1.set (k := 144 + 7 * j + 6) (v := woJ E l j (144 + 7 * j + 6) + E (144 + 7 * j + 3)) (nCash (by omega))
      have t2 := t1.set (k := 144 + 7 * j + 3) (v := upd (woJ E l j) (144 + 7 * j + 6) (woJ E l j (144 + 7 * j + 6) + E (144 + 7 * j + 3)) (144 + 7 * j + 3) + -E (144 + 7 * j + 3)) (nCash (by omega))
      have t3 := t2.set (k := 10 + 3 * i + 2) (v := woJ E l j (10 + 3 * i + 2) + E (144 + 7 * j + 3)) (fun z => by have := z.2.2; omega)
      have f3 : upd (woJ E l j) (144 + 7 * j + 6) (woJ E l j (144 + 7 * j + 6) + E (144 + 7 * j + 3)) (144 + 7 * j + 3) = E (144 + 7 * j + 3) := by rw [upd_ne (by omega)]; exact e3
      refine ⟨x + E (144 + 7 * j + 3), _, ⟨by rw [wsm_succ, if_pos d, p0], t3.congr (fun k _ => ?_) (fun _ _ => rfl), p2.trans (SameC.trans (SameC_up (f := 304) rfl) (SameC.trans (SameC_up (f := 304) rfl) (SameC_up (f := 304) rfl)))⟩, fun rec => ?_⟩
      · rw [wo_step hj (by omega) he d, f3, e6, h6 j hj d, Int32.zero_add, ← Int32.sub_eq_add_neg, Int32.sub_self]
      · have r50 : τ.1 304 0 (10 + 3 * i + 2) = woJ E l j (10 + 3 * i + 2) := p1.read (by omega) (fun z => by have := z.2.2; omega)
        rw [if_pos ib_3, cl_3, p1.read (by omega) (nCash (by omega)), w3, h3, if_neg (by rw [nI_leI (by omega) (by omega)]; omega), show (1 : Int32) = nI 1 from rfl, p1.on (by omega) (by omega), bd_s, e1, if_pos d, show (3 : Int32) = nI 3 from rfl, show (6 : Int32) = nI 6 from rfl, p1.on (by omega) (by omega), bd_s, e3, p1.mo (by omega) (by omega), bv_s, t1.mo (by omega) (by omega), bv_s, show (0 : Int32) = nI 0 from rfl, t2.on (by omega) (by omega), bd_s, upd_ne (show 144 + 7 * j + 0 ≠ 144 + 7 * j + 3 by omega), upd_ne (show 144 + 7 * j + 0 ≠ 144 + 7 * j + 6 by omega), e0]
        simp only [show nI 3 = (3 : Int32) from rfl, x10_2]
        rw [if_pos (inb_nI (show 10 + 3 * i + 2 < 564 by omega) (by decide)), if_pos (inb_nI (show 10 + 3 * i + 2 < 564 by omega) (by decide)), nI_clamp (show 10 + 3 * i + 2 < 2 ^ 31 by omega), up_nl (by omega), up_nl (by omega), r50, nI_add]
    · refine ⟨x, τ, ⟨by rw [wsm_succ, if_neg d, p0], p1.congr (fun k _ => (wo_skip d k).symm) (fun _ _ => rfl), p2⟩, fun rec => ?_⟩
      rw [if_pos ib_3, cl_3, p1.read (by omega) (nCash (by omega)), w3, h3, if_neg (by rw [nI_leI (by omega) (by omega)]; omega), show (1 : Int32) = nI 1 from rfl, p1.on (by omega) (by omega), bd_s, e1, if_neg d, nI_add]
  · obtain ⟨p0, p1, p2⟩ := hP
    have t1 := p1.set (k := 34 + 11 * l + 4) (v := 0) (nCash (by omega))
    have t2 := t1.set (k := 34 + 11 * l + 6) (v := 0) (nCash (by omega))
    have t3 := t2.set (k := 34 + 11 * l + 7) (v := 0) (nCash (by omega))
    obtain ⟨υ, u1, u2, u3⟩ := ends_m (l := l) (s := 3) t3 hl (by rw [upd_ne (by omega), upd_ne (by omega), upd_eq]) (by rw [upd_ne (by omega), upd_eq]) (by rw [upd_eq])
    refine ⟨υ, u2.congr (fun k _ => ?_) (fun _ _ => rfl), p2.trans (SameC.trans (SameC.trans (SameC_up (f := 304) rfl) (SameC.trans (SameC_up (f := 304) rfl) (SameC_up (f := 304) rfl))) u3), ?_⟩
    · unfold endM
      simp only [upd]
      by_cases k4 : k = 34 + 11 * l + 4
      · subst k4
        simp (disch := omega) only [if_pos, if_neg, if_true]
      · by_cases k6 : k = 34 + 11 * l + 6
        · subst k6
          simp (disch := omega) only [if_pos, if_neg, if_true]
        · by_cases k7 : k = 34 + 11 * l + 7
          · subst k7
            simp (disch := omega) only [if_pos, if_neg, if_true]
          · simp only [k4, k6, k7, if_false]
    · rw [if_pos ib_3, cl_3, p1.read (by omega) (nCash (by omega)), w3, h3, if_pos (by rw [nI_leI (by omega) (by omega)]; omega), be_4 hl, bv_s, be_6 hl, bv_s, be_7 hl, bv_s, u1, bv_s, p0]
