/-! pay, on both sides -/
theorem ofPay_c {K : Int} {σ : Sto} {m : Mt} {l : Nat} {c : Int32} (h : InvM K m) (hr : Cla σ 0 m) (hp : Prt σ m l c) (q : PN m l c) : ∃ τ, dc_X8_ofPayment 0 (nI l) σ = some τ ∧ FrW 288 σ τ ∧ PA τ (gi m l c) (gp m l c) (wt m (nI l) 1) := by
  have hc := h.1
  obtain ⟨p0, p1, p2, p3, p4, p5⟩ := hp
  obtain ⟨σ1, a1, a2, a3⟩ := clear_c (σ := σ)
  obtain ⟨σ2, b1, b2, b3⟩ := weigh_c (a2.cla hr) hc h.kin (nI l) 2 (Or.inr (Or.inr rfl)) a3 (fun _ _ => rfl)
  have b1' : dc_X8_weighPrincipals 0 (nI l) 1 1 σ1 = some σ2 := b1
  have f2 : ∀ f, f ≠ 288 → σ2.1 f = σ.1 f := fun f hf => (b2.1 f hf).trans (a2.1 f hf)
  obtain ⟨σ3, c1, c2, c3⟩ := shareI_c b3 (wt_ok h.pb (nI l) 2) (c := pInt m l c - pPool m l c) (by have := q.d; have := q.q1; have := q.q0; have := q.i1; omega)
  have f3 : ∀ f, f ≠ 288 → σ3.1 f = σ.1 f := fun f hf => (c2.1 f hf).trans (f2 f hf)
  obtain ⟨σ4, d1, d2, d3⟩ := byClass_c (c2.cla (b2.cla (a2.cla hr))) hc h.kin h.pb (nI l) (c0 := pSen m l c) (c1 := pJun m l c) (by have := q.s0; have := q.s2; have := q.p1; omega) (by have := q.j0; have := q.s0; have := q.s2; have := q.p1; omega) c3 (fun n hn => wt_out hn)
  unfold dc_X8_ofPayment
  rw [a1, bv_s, b1', bv_s, f2 113 (by decide), f2 114 (by decide), p1, p2, c1, bv_s, f3 116 (by decide), f3 117 (by decide), p4, p5, d1, bv_s]
  exact ⟨σ4, rfl, ⟨fun f hf => (d2.1 f hf).trans (f3 f hf), d2.2.trans (c2.2.trans (b2.2.trans a2.2))⟩, d3⟩
theorem takeP_c {K : Int} {σ : Sto} {m : Mt} {l : Nat} {c : Int32} (h : InvM K m) (hl : l < nb m) (hr : Cla σ 0 (coJ m (gi m l c) (gp m l c) (nc m))) (hp : Prt σ m l c) (q : PN m l c) : ∃ τ, dc_X5_takePayment 0 (nI l) σ = some τ ∧ FrJ 0 σ τ ∧ Cla τ 0 (pyM m l c) := by
  have hc := h.1
  have hb := hc.b.2
  obtain ⟨s1, s2⟩ := svc_eq h hl
  obtain ⟨p0, p1, p2, p3, p4, p5⟩ := hp
  have el : ∀ w, w < 11 → coJ m (gi m l c) (gp m l c) (nc m) (34 + 11 * l + w) = m (34 + 11 * l + w) := fun w hw => coJ_out (by omega) (by omega)
  have q9 := (hr.2.2.1 l (by omega)).2.2.2.2.2.2.2.2.2.1
  rw [el 9 (by omega), s1] at q9
  have qe := hr.1.2.2.2.2.2.2 (svc m l) s2
  rw [coJ_out (by omega) (by omega)] at qe
  have q4 := hr.1.2.2.2.2.1
  rw [coJ_out (by omega) (by omega)] at q4
  have c2 : Cla (up (up σ 224 0 (svc m l) (m (6 + svc m l) + pFee m l c)) 88 0 0 (m 4 + pPool m l c)) 0 (pyB m l c) := Cla_up88 (v := m 4 + pPool m l c) (Cla_up224 (v := m (6 + svc m l) + pFee m l c) s2 hr)
  have k7 := (h.2.2.2.2.2.1 l hl).2.2.2.2.2.2.2.1
  obtain ⟨τ, t1, t2, t3⟩ := tk_c (i := pInt m l c) (p := pPri m l c) (show l < 10 by omega) c2 q.p0 (by rw [pyB_l s2 (by omega) (by omega)]; exact k7.1)
  have hL : isL (coJ m (gi m l c) (gp m l c) (nc m)) (nI l) := by
    unfold isL
    rw [coJ_123.2.1]
    exact isL_nI hc hl
  have hs4 : 0 ≤ (nI (svc m l)).toInt ∧ (nI (svc m l)).toInt < 4 := by rw [nI_toInt (by omega)]; omega
  refine ⟨τ, ?_, (FrJ_up rfl (FrJ_up rfl (FrJ.refl 0 σ))).trans t2, t3⟩
  unfold dc_X5_takePayment
  simp only [jn]
  rw [hasL_eq hr, bd_s, if_pos hL, if_neg (by decide), if_pos (inb_nI (show l < 10 by omega) (by decide)), nI_clamp (show l < 2 ^ 31 by omega), q9, xisS_eq, bd_s, if_pos hs4, if_neg (by decide), if_pos (inb_nI s2 (by decide)), if_pos (inb_nI s2 (by decide)), nI_clamp (show svc m l < 2 ^ 31 by omega), if_pos (inb_nI (show l < 10 by omega) (by decide))]
  simp (disch := decide) only [up_ne]
  rw [qe, p0, q4, p2, p1, p3, t1, bv_s]
theorem wt_co {E : Mt} {a b : Gf} {l s : Int32} (hb : ∀ n, n < nc E → E (144 + 7 * n + 1) = l ∧ (s = 2 ∨ E (144 + 7 * n + 2) = s) → b n = 0) : wt (coJ E a b (nc E)) l s = wt E l s ∧ pr (coJ E a b (nc E)) l s = pr E l s := by
  have e3 : nc (coJ E a b (nc E)) = nc E := by unfold nc; rw [coJ_123.2.2]
  constructor
  · funext n
    unfold wt
    rw [e3, coJ_nx (w := 1) (by omega) (by omega) (by omega), coJ_nx (w := 2) (by omega) (by omega) (by omega)]
    by_cases d : n < nc E ∧ E (144 + 7 * n + 1) = l ∧ (s = 2 ∨ E (144 + 7 * n + 2) = s)
    · rw [if_pos d, if_pos d, coJ_n3 d.1, hb n d.1 d.2, Int32.sub_zero]
    · rw [if_neg d, if_neg d]
  · unfold pr
    rw [e3]
    refine itN_congr fun n x _ hn => ?_
    have hn' : n < nc E := by omega
    rw [coJ_nx (w := 1) (by omega) (by omega) (by omega), coJ_nx (w := 2) (by omega) (by omega) (by omega)]
    by_cases d : E (144 + 7 * n + 1) = l ∧ (s = 2 ∨ E (144 + 7 * n + 2) = s)
    · rw [if_pos d, if_pos d, coJ_n3 hn', hb n hn' d, Int32.sub_zero]
    · rw [if_neg d, if_neg d]
theorem coJ_upd {m : Mt} {a b : Gf} {j k0 : Nat} {v : Int32} (h : k0 < 10) (k : Nat) : coJ (upd m k0 v) a b j k = upd (coJ m a b j) k0 v k := by
  have hs : ∀ g i, sG (upd m k0 v) g i j = sG m g i j := fun g i => sG_congr (fun n _ => upd_ne (by omega)) (fun _ _ => rfl)
  revert k
  refine plc (fun k h1 h2 => ?_) (fun i hi => ?_) (fun i hi => ?_) (fun i hi => ?_) (fun n w hw => ?_)
  · rw [coJ_out h1 h2]
    by_cases e : k = k0
    · rw [e, upd_eq, upd_eq]
    · rw [upd_ne e, upd_ne e, coJ_out h1 h2]
  · rw [coJ_c hi, hs, upd_ne (by omega), upd_ne (by omega), coJ_c hi]
  · rw [coJ_i hi, hs, upd_ne (by omega), upd_ne (by omega), coJ_i hi]
  · rw [coJ_l hi, upd_ne (by omega), upd_ne (by omega), coJ_l hi]
  · rw [coJ_n hw, upd_ne (by omega), upd_ne (by omega), coJ_n hw]
theorem spl_v {m : Mt} {l : Nat} {c : Int32} : spl m l c 0 = pFee m l c ∧ spl m l c 1 = pInt m l c ∧ spl m l c 2 = pPool m l c ∧ spl m l c 3 = pPri m l c := ⟨rfl, rfl, rfl, rfl⟩
theorem pay_m {K : Int} {σ : Sto} {Z : Zt} {l : Nat} {c : Int32} (hI : InvM K Z.1) (hl : l < nb Z.1) (hcb : 0 ≤ c.toInt ∧ c.toInt ≤ 199999) (q : PN Z.1 l c) (hR : RMid σ Z Z.1 0) : ∃ τ C, RS τ Z (pyM Z.1 l c) C ∧ (∀ i, i < 8 → C i = (Z.1 (10 + 3 * i)).toInt + CI Z.1 (fun n => gi Z.1 l c n + gp Z.1 l c n) i (nc Z.1)) ∧ SameC σ τ ∧ (bd (dc_X10_splitBy (nI l) c (1 : Int32) σ) fun r9 σ10 => (bd (dc_X10_splitBy (nI l) c (2 : Int32) σ10) fun r11 σ12 => (bd (dc_X10_splitBy (nI l) c (3 : Int32) σ12) fun r13 σ14 => (bd (dc_X10_of (nI l) (9 : Int32) σ14) fun r15 σ16 => (if inb ((6 : Int32) + r15) 564 then (bd (dc_X10_splitBy (nI l) c (0 : Int32) σ16) fun r17 σ18 => (if inb ((6 : Int32) + r15) 564 then (if inb (4 : Int32) 564 then (if inb (4 : Int32) 564 then (lt (up (up σ18 304 0 ((6 : Int32) + r15).toNatClampNeg ((σ16.1 304 0 ((6 : Int32) + r15).toNatClampNeg) + r17)) 304 0 (4 : Int32).toNatClampNeg (((up σ18 304 0 ((6 : Int32) + r15).toNatClampNeg ((σ16.1 304 0 ((6 : Int32) + r15).toNatClampNeg) + r17)).1 304 0 (4 : Int32).toNatClampNeg) + r11)) fun σ19 => (bv (dc_X10_payInterest (nI l) (r9 - r11) σ19) fun σ21 => (bd (dc_X10_payPrincipal (nI l) (0 : Int32) r13 σ21) fun r22 σ23 => (bd (dc_X10_payPrincipal (nI l) (1 : Int32) r22 σ23) fun r24 σ25 => (bd (dc_X10_of (nI l) (6 : Int32) σ25) fun r26 σ27 => (bv (dc_X10_be (nI l) (6 : Int32) (r26 - r9) σ27) fun σ29 => (bd (dc_X10_of (nI l) (4 : Int32) σ29) fun r30 σ31 => (bv (dc_X10_be (nI l) (4 : Int32) (r30 - r13) σ31) fun σ33 => (bd (dc_X10_of (nI l) (7 : Int32) σ33) fun r34 σ35 => jn (fun (v36 : Int32) (σ37 : Sto) => (bv (dc_X10_be (nI l) (7 : Int32) v36 σ37) fun σ40 => (bd (dc_X10_of (nI l) (6 : Int32) σ40) fun r41 σ42 => (bd (dc_X10_of (nI l) (7 : Int32) σ42) fun r43 σ44 => jn (fun (v45 : Int32) (σ46 : Sto) => (bv (dc_X10_be (nI l) (8 : Int32) v45 σ46) fun σ49 => (bd (dc_X10_of (nI l) (4 : Int32) σ49) fun r50 σ51 => (bd (dc_X10_of (nI l) (6 : Int32) σ51) fun r52 σ53 => jn (fun (σ54 : Sto) => (bd (dc_X10_of (nI l) (4 : Int32) σ54) fun r56 σ57 => (bd (dc_X10_acted r56 σ57) fun r58 σ59 => some (r58, σ59)))) (fun k55 => (if (r50 + r52) = 0 then (bv (dc_X10_ends (nI l) (2 : Int32) σ53) fun σ61 => k55 σ61) else k55 σ53)))))) (fun k47 => (if (r41 + r43) = 0 then k47 (0 : Int32) σ44 else (bd (dc_X10_of (nI l) (8 : Int32) σ44) fun r62 σ63 => k47 r62 σ63))))))) (fun k38 => (if r34 ≤ r13 then k38 (0 : Int32) σ35 else (bd (dc_X10_of (nI l) (7 : Int32) σ35) fun r64 σ65 => k38 (r64 - r13) σ65)))))))))))) else none) else none) else none)) else none))))) = (bd (dc_X10_acted (Z.1 (34 + 11 * l + 4) - pPri Z.1 l c) τ) fun r58 σ59 => some (r58, σ59)) := by
  obtain ⟨m, Zx⟩ := Z
  show ∃ τ C, RS τ (m, Zx) (pyM m l c) C ∧ (∀ i, i < 8 → C i = (m (10 + 3 * i)).toInt + CI m (fun n => gi m l c n + gp m l c n) i (nc m)) ∧ SameC σ τ ∧ (bd (dc_X10_splitBy (nI l) c (1 : Int32) σ) fun r9 σ10 => (bd (dc_X10_splitBy (nI l) c (2 : Int32) σ10) fun r11 σ12 => (bd (dc_X10_splitBy (nI l) c (3 : Int32) σ12) fun r13 σ14 => (bd (dc_X10_of (nI l) (9 : Int32) σ14) fun r15 σ16 => (if inb ((6 : Int32) + r15) 564 then (bd (dc_X10_splitBy (nI l) c (0 : Int32) σ16) fun r17 σ18 => (if inb ((6 : Int32) + r15) 564 then (if inb (4 : Int32) 564 then (if inb (4 : Int32) 564 then (lt (up (up σ18 304 0 ((6 : Int32) + r15).toNatClampNeg ((σ16.1 304 0 ((6 : Int32) + r15).toNatClampNeg) + r17)) 304 0 (4 : Int32).toNatClampNeg (((up σ18 304 0 ((6 : Int32) + r15).toNatClampNeg ((σ16.1 304 0 ((6 : Int32) + r15).toNatClampNeg) + r17)).1 304 0 (4 : Int32).toNatClampNeg) + r11)) fun σ19 => (bv (dc_X10_payInterest (nI l) (r9 - r11) σ19) fun σ21 => (bd (dc_X10_payPrincipal (nI l) (0 : Int32) r13 σ21) fun r22 σ23 => (bd (dc_X10_payPrincipal (nI l) (1 : Int32) r22 σ23) fun r24 σ25 => (bd (dc_X10_of (nI l) (6 : Int32) σ25) fun r26 σ27 => (bv (dc_X10_be (nI l) (6 : Int32) (r26 - r9) σ27) fun σ29 => (bd (dc_X10_of (nI l) (4 : Int32) σ29) fun r30 σ31 => (bv (dc_X10_be (nI l) (4 : Int32) (r30 - r13) σ31) fun σ33 => (bd (dc_X10_of (nI l) (7 : Int32) σ33) fun r34 σ35 => jn (fun (v36 : Int32) (σ37 : Sto) => (bv (dc_X10_be (nI l) (7 : Int32) v36 σ37) fun σ40 => (bd (dc_X10_of (nI l) (6 : Int32) σ40) fun r41 σ42 => (bd (dc_X10_of (nI l) (7 : Int32) σ42) fun r43 σ44 => jn (fun (v45 : Int32) (σ46 : Sto) => (bv (dc_X10_be (nI l) (8 : Int32) v45 σ46) fun σ49 => (bd (dc_X10_of (nI l) (4 : Int32) σ49) fun r50 σ51 => (bd (dc_X10_of (nI l) (6 : Int32) σ51) fun r52 σ53 => jn (fun (σ54 : Sto) => (bd (dc_X10_of (nI l) (4 : Int32) σ54) fun r56 σ57 => (bd (dc_X10_acted r56 σ57) fun r58 σ59 => some (r58, σ59)))) (fun k55 => (if (r50 + r52) = 0 then (bv (dc_X10_ends (nI l) (2 : Int32) σ53) fun σ61 => k55 σ61) else k55 σ53)))))) (fun k47 => (if (r41 + r43) = 0 then k47 (0 : Int32) σ44 else (bd (dc_X10_of (nI l) (8 : Int32) σ44) fun r62 σ63 => k47 r62 σ63))))))) (fun k38 => (if r34 ≤ r13 then k38 (0 : Int32) σ35 else (bd (dc_X10_of (nI l) (7 : Int32) σ35) fun r64 σ65 => k38 (r64 - r13) σ65)))))))))))) else none) else none) else none)) else none))))) = (bd (dc_X10_acted (m (34 + 11 * l + 4) - pPri m l c) τ) fun r58 σ59 => some (r58, σ59))
  have hI : InvM K m := hI
  have hl : l < nb m := hl
  have q : PN m l c := q
  have hR : RMid σ (m, Zx) m 0 := hR
  have hc := hI.1
  have hb := hc.b.2
  have hn := hc.c.2
  obtain ⟨s1, s2⟩ := svc_eq hI hl
  have k := hI.2.2.2.2.2.1 l hl
  -- the servicer and the pool
  have r0 : RS σ (m, Zx) m (fun i => (m (10 + 3 * i)).toInt) := RS.start (Z := (m, Zx)) hI hR
  have r1 := (r0.set (k := 6 + svc m l) (v := m (6 + svc m l) + pFee m l c) (nCash (by omega))).set (k := 4) (v := m 4 + pPool m l c) (nCash (by omega))
  obtain ⟨m1, hm1⟩ : ∃ m1, m1 = upd (upd m (6 + svc m l) (m (6 + svc m l) + pFee m l c)) 4 (m 4 + pPool m l c) := ⟨_, rfl⟩
  rw [← hm1] at r1
  have em : ∀ x, ¬ (4 ≤ x ∧ x < 10) → m1 x = m x := fun x hx => by rw [hm1, upd_ne (by omega), upd_ne (by omega)]
  have c1 : Cnt m1 := hc.same (em 1 (by omega)) (em 2 (by omega)) (em 3 (by omega))
  have n1 : nc m1 = nc m := by unfold nc; rw [em 3 (by omega)]
  have hd1 : Hd m1 := fun n h1 => by
    unfold isI
    rw [em _ (by omega), em 1 (by omega)]
    exact hI.hd n (by omega)
  have pb1 : Pb m1 := fun n h1 => by rw [em _ (by omega)]; exact hI.pb n (by omega)
  have w1 : ∀ s, wt m1 (nI l) s = wt m (nI l) s := fun s => wt_cg (em 3 (by omega)) (fun n _ w _ => em _ (by omega)) (nI l) s
  have pr1 : ∀ s, pr m1 (nI l) s = pr m (nI l) s := fun s => pr_cg (em 3 (by omega)) (fun n _ w _ => em _ (by omega)) (nI l) s
  -- the interest
  obtain ⟨σ2, t1, t2, t3⟩ := payI_m r1 c1 hd1 pb1 (nI l) (c := pInt m l c - pPool m l c) (by have := q.d; have := q.q0; have := q.q1; have := q.i1; omega)
  rw [w1 2, n1] at t2
  have E1n : nc (coJ m1 (gI m l c) nil (nc m)) = nc m := by unfold nc; rw [coJ_123.2.2, em 3 (by omega)]
  have E1w := wt_co (E := m1) (a := gI m l c) (b := nil) (l := nI l) (s := 0) (fun _ _ _ => rfl)
  have E1w1 := wt_co (E := m1) (a := gI m l c) (b := nil) (l := nI l) (s := 1) (fun _ _ _ => rfl)
  rw [n1] at E1w E1w1
  have pb2 : Pb (coJ m1 (gI m l c) nil (nc m)) := fun n h1 => by
    rw [E1n] at h1
    rw [coJ_n3 h1, em _ (by omega)]
    show 0 ≤ (m (144 + 7 * n + 3) - (0 : Int32)).toInt ∧ (m (144 + 7 * n + 3) - (0 : Int32)).toInt ≤ 99999
    rw [Int32.sub_zero]
    exact hI.pb n h1
  -- seniors
  obtain ⟨σ3, u1, u2, u3⟩ := payP_m t2 (coJ_cnt c1) (coJ_hd hd1) pb2 (nI l) 0 (c := pPri m l c) q.p0
  rw [show sh (pInt m l c - pPool m l c) (wt m (nI l) 2) = gI m l c from rfl, E1w.1, E1w.2, w1, pr1, E1n, show mn (pr m (nI l) 0) (pPri m l c) = pSen m l c from rfl, show sh (pSen m l c) (wt m (nI l) 0) = g0 m l c from rfl] at u2
  rw [show sh (pInt m l c - pPool m l c) (wt m (nI l) 2) = gI m l c from rfl, E1w.2, pr1, show mn (pr m (nI l) 0) (pPri m l c) = pSen m l c from rfl] at u1
  have E2n : nc (coJ (coJ m1 (gI m l c) nil (nc m)) nil (g0 m l c) (nc m)) = nc m := by unfold nc; rw [coJ_123.2.2, coJ_123.2.2, em 3 (by omega)]
  have E2w := wt_co (E := coJ m1 (gI m l c) nil (nc m)) (a := nil) (b := g0 m l c) (l := nI l) (s := 1) (fun n h1 h2 => by
    rw [E1n] at h1
    refine (gp_b hI q h1).2.2.2.2 ?_
    have := h2.2.resolve_left (by decide)
    rw [coJ_nx (by omega) (by omega) (by omega), em _ (by omega)] at this
    exact this)
  rw [E1n] at E2w
  have pb3 : Pb (coJ (coJ m1 (gI m l c) nil (nc m)) nil (g0 m l c) (nc m)) := fun n h1 => by
    rw [E2n] at h1
    obtain ⟨v1, v2, v3, v4, v5⟩ := gp_b hI q h1
    obtain ⟨x1, x2, x3, -⟩ := g_b hI q (n := n) (by omega)
    have := hI.pb n h1
    rw [coJ_n3 h1, coJ_n3 h1, em _ (by omega)]
    show 0 ≤ (m (144 + 7 * n + 3) - (0 : Int32) - g0 m l c n).toInt ∧ (m (144 + 7 * n + 3) - (0 : Int32) - g0 m l c n).toInt ≤ 99999
    rw [Int32.sub_zero, tsub] <;> omega
  -- juniors
  have hjn : 0 ≤ (pPri m l c - pSen m l c).toInt := by
    have := q.j0; have := q.s2
    show 0 ≤ (pJun m l c).toInt
    omega
  obtain ⟨σ4, v1, v2, v3⟩ := payP_m u2 (coJ_cnt (coJ_cnt c1)) (coJ_hd (coJ_hd hd1)) pb3 (nI l) 1 (c := pPri m l c - pSen m l c) hjn
  have emn : mn (pr m (nI l) 1) (pPri m l c - pSen m l c) = pJun m l c := by
    show mn (pr m (nI l) 1) (pJun m l c) = pJun m l c
    unfold mn
    by_cases d : pr m (nI l) 1 ≤ pJun m l c
    · rw [if_pos d, teq]
      rw [tle] at d
      have := q.j1
      omega
    · rw [if_neg d]
  rw [E2w.1, E2w.2, E1w1.1, E1w1.2, w1, pr1, E2n, emn, show sh (pJun m l c) (wt m (nI l) 1) = g1 m l c from rfl] at v2
  rw [E2w.2, E1w1.2, pr1, emn] at v1
  -- all together
  have hE : ∀ x, coJ (coJ (coJ m1 (gI m l c) nil (nc m)) nil (g0 m l c) (nc m)) nil (g1 m l c) (nc m) x = pyB m l c x := fun x => by
    rw [funext (coJ_add (m := m1) (a := gI m l c) (b := nil) (a' := nil) (b' := g0 m l c) (j := nc m)), coJ_add]
    have ea : (fun n => gI m l c n + nil n + nil n) = gi m l c := funext fun n => by
      show gI m l c n + (0 : Int32) + (0 : Int32) = (0 : Int32) + gI m l c n
      rw [Int32.add_zero, Int32.add_zero, Int32.zero_add]
    have eb : (fun n => nil n + g0 m l c n + g1 m l c n) = gp m l c := rfl
    rw [ea, eb, hm1, coJ_upd (by omega)]
    unfold pyB
    have := funext (coJ_upd (m := m) (a := gi m l c) (b := gp m l c) (j := nc m) (k0 := 6 + svc m l) (v := m (6 + svc m l) + pFee m l c) (by omega))
    rw [this]
  have hC : ∀ i, i < 8 → (m (10 + 3 * i)).toInt + CI m1 (gI m l c) i (nc m) + CI (coJ m1 (gI m l c) nil (nc m)) (g0 m l c) i (nc m) + CI (coJ (coJ m1 (gI m l c) nil (nc m)) nil (g0 m l c) (nc m)) (g1 m l c) i (nc m) = (m (10 + 3 * i)).toInt + CI m (fun n => gi m l c n + gp m l c n) i (nc m) := fun i hi => by
    have a1 : CI m1 (gI m l c) i (nc m) = CI m (gI m l c) i (nc m) := si_congr fun n _ => by rw [em _ (by omega)]
    have a2 : CI (coJ m1 (gI m l c) nil (nc m)) (g0 m l c) i (nc m) = CI m (g0 m l c) i (nc m) := si_congr fun n _ => by rw [coJ_j0, em _ (by omega)]
    have a3 : CI (coJ (coJ m1 (gI m l c) nil (nc m)) nil (g0 m l c) (nc m)) (g1 m l c) i (nc m) = CI m (g1 m l c) i (nc m) := si_congr fun n _ => by rw [coJ_j0, coJ_j0, em _ (by omega)]
    have a4 : CI m (fun n => gi m l c n + gp m l c n) i (nc m) = CI m (gI m l c) i (nc m) + CI m (g0 m l c) i (nc m) + CI m (g1 m l c) i (nc m) := by
      unfold CI
      rw [← si_add, ← si_add]
      refine si_congr fun n hn' => ?_
      obtain ⟨x1, x2, x3, x4, -⟩ := g_b hI q (n := n) (by omega)
      by_cases d : m (144 + 7 * n) = nI i
      · rw [if_pos d, if_pos d, if_pos d, if_pos d]; exact x4
      · rw [if_neg d, if_neg d, if_neg d, if_neg d]; rfl
    rw [a1, a2, a3, a4]
    omega
  have rB := v2.congr (E' := pyB m l c) (fun x _ => hE x) hC
  have bl : ∀ w, w < 11 → pyB m l c (34 + 11 * l + w) = m (34 + 11 * l + w) := fun w hw => pyB_l s2 (by omega) hw
  have x6v : (m (34 + 11 * l + 6) - pInt m l c).toInt = (m (34 + 11 * l + 6)).toInt - (pInt m l c).toInt := by
    have := q.i0; have := q.i2; have := thi (m (34 + 11 * l + 6))
    rw [tsub] <;> omega
  have x4 : (m (34 + 11 * l + 4) - pPri m l c).toInt = (m (34 + 11 * l + 4)).toInt - (pPri m l c).toInt := by
    have := q.p0; have := q.p2; have := thi (m (34 + 11 * l + 4))
    rw [tsub] <;> omega
  have y6 := bl 6 (by omega)
  have y4 := bl 4 (by omega)
  have y7 := bl 7 (by omega)
  have z7 := b7_b (E := pyB m l c) (l := l) (p := pPri m l c) q.p0 (by rw [y7, y4]; exact k.2.2.2.2.2.2.2.1) (by rw [y4]; exact x4) (by rw [y4]; exact q.p2)
  have kP := k.2.2.2.2.1
  have kD : 0 ≤ (m (34 + 11 * l + 6)).toInt ∧ (m (34 + 11 * l + 6)).toInt ≤ 1200000 := by
    have := k.2.2.2.2.2.2.1
    have := hI.2.1
    omega
  have g1' := q.i0; have g2' := q.i2; have g3' := q.p0; have g4' := q.p2
  rw [y4] at z7
  obtain ⟨τ, e1, e2, e3⟩ := tk_m (i := pInt m l c) (p := pPri m l c) rB (show l < 10 by omega) (by rw [y6]; omega) (by rw [y4]; omega) (by omega) (fun z => by
    rw [y4] at z
    rw [z, show (0 : Int32).toInt = 0 from rfl] at z7
    rw [teq, show (0 : Int32).toInt = 0 from rfl]
    omega)
  rw [y4] at e3
  have u4 : σ.1 304 0 4 = m 4 := hR.1 4 (by decide)
  have u6 : σ.1 304 0 (6 + svc m l) = m (6 + svc m l) := hR.1 _ (by omega)
  refine ⟨τ, _, e1, fun i hi => rfl, SameC.trans (SameC.trans (SameC_up (f := 304) rfl) (SameC_up (f := 304) rfl)) (t3.trans (u3.trans (v3.trans e2))), ?_⟩
  rw [splitBy_eq hI hR.1 hl hcb, bd_s, splitBy_eq hI hR.1 hl hcb, bd_s, splitBy_eq hI hR.1 hl hcb, bd_s, of_9 hR.1 (by omega), bd_s, s1, x6, splitBy_eq hI hR.1 hl hcb, bd_s, spl_v.1, spl_v.2.1, spl_v.2.2.1, spl_v.2.2.2, if_pos (inb_nI (show 6 + svc m l < 564 by omega) (by decide)), if_pos (inb_nI (show 6 + svc m l < 564 by omega) (by decide)), if_pos ib_4, if_pos ib_4, nI_clamp (show 6 + svc m l < 2 ^ 31 by omega), cl_4]
  simp only [lt]
  rw [up_nl (show 4 ≠ 6 + svc m l by omega), u6, u4, t1, bv_s, u1, bd_s, v1, bd_s]
  exact e3
