/-! sell, on both sides -/
theorem wo_upd {E : Mt} {l j k0 : Nat} {v : Int32} (h : 34 ≤ k0 ∧ k0 < 144) : woJ (upd E k0 v) l j = upd (woJ E l j) k0 v := by
  have hw : wt (upd E k0 v) (nI l) 2 = wt E (nI l) 2 := wt_cg (upd_ne (by omega)) (fun n _ w _ => upd_ne (by omega)) (nI l) 2
  have hs : ∀ i, sG (upd E k0 v) (wt (upd E k0 v) (nI l) 2) i j = sG E (wt E (nI l) 2) i j := fun i => by
    rw [hw]
    exact sG_congr (fun n _ => upd_ne (by omega)) (fun _ _ => rfl)
  funext k
  revert k
  refine plc (fun k h1 h2 => ?_) (fun i hi => ?_) (fun i hi => ?_) (fun i hi => ?_) (fun n w hw => ?_)
  · rw [wo_out h1 h2]
    by_cases e : k = k0
    · rw [e, upd_eq, upd_eq]
    · rw [upd_ne e, upd_ne e, wo_out h1 h2]
  · rw [wo_c hi, upd_ne (by omega), upd_ne (by omega), wo_c hi]
  · rw [wo_i hi, upd_ne (by omega), upd_ne (by omega), wo_i hi]
  · rw [wo_l hi, hs, upd_ne (by omega), upd_ne (by omega), wo_l hi]
  · rw [wo_n hw, upd_ne (by omega), upd_ne (by omega), upd_ne (by omega), upd_ne (by omega), wo_n hw]
theorem wo_end {E : Mt} {l j : Nat} {s : Int32} (hl : l < 10) : woJ (endM E l s) l j = endM (woJ E l j) l s := by
  unfold endM
  rw [wo_upd (by omega), wo_upd (by omega), wo_upd (by omega), wo_upd (by omega), wo_upd (by omega), wo_upd (by omega)]
def sB (m : Mt) (l : Nat) (c : Int32) : Mt := upd (coJ m nil (hp m l c) (nc m)) 4 (sQ m l c - sA2 m l c)
def sM (m : Mt) (l : Nat) (c : Int32) : Mt := endM (woJ (sB m l c) l (nc m)) l 3
theorem sB_x {m : Mt} {l : Nat} {c : Int32} {k : Nat} (h : k ≠ 4) : sB m l c k = coJ m nil (hp m l c) (nc m) k := upd_ne h
theorem sB_n {m : Mt} {l : Nat} {c : Int32} : nc (sB m l c) = nc m := by unfold nc; rw [sB_x (by omega), coJ_123.2.2]
theorem sB_cnt {m : Mt} {l : Nat} {c : Int32} (hc : Cnt m) : Cnt (sB m l c) := (coJ_cnt hc).same (sB_x (by omega)) (sB_x (by omega)) (sB_x (by omega))
theorem sB_hd {m : Mt} {l : Nat} {c : Int32} (h : Hd m) : Hd (sB m l c) := fun n hn => by
  rw [sB_n] at hn
  unfold isI
  rw [sB_x (by omega), sB_x (by omega), coJ_j0, coJ_123.1]
  exact h n hn
theorem hp_z {K : Int} {m : Mt} {l : Nat} {c : Int32} (h : InvM K m) (hK : K ≤ 2000000000) (hc : 0 ≤ c.toInt ∧ c.toInt ≤ 99999) {n : Nat} (hn : n < nc m) : (0 ≤ (hp m l c n).toInt ∧ (hp m l c n).toInt ≤ 300000) ∧ (nil n + hp m l c n).toInt = (h0 m l c n).toInt + (h1 m l c n).toInt + (h2 m l c n).toInt ∧ (¬ m (144 + 7 * n + 1) = nI l → hp m l c n = 0) := by
  have hn60 : n < 60 := by have := h.1.c.2; omega
  obtain ⟨⟨a1, a2, a3⟩, ⟨b1, b2, b3⟩⟩ := hh_b (l := l) h hc hn60
  obtain ⟨d1, d2, d3⟩ := h2_b (l := l) h hK hc hn60
  have x0 := wt_ok h.pb (nI l) 0 n
  have x1 := wt_ok h.pb (nI l) 1 n
  have x2 : 0 ≤ (wq m l c n).toInt ∧ (wq m l c n).toInt ≤ 99999 := wt_ok (sE_pb (l := l) (c := c) h hc) (nI l) 0 n
  have e : hp m l c n = h0 m l c n + h1 m l c n + h2 m l c n := by show (0 : Int32) + h0 m l c n + h1 m l c n + h2 m l c n = _; rw [Int32.zero_add]
  have t1 : (h0 m l c n + h1 m l c n).toInt = (h0 m l c n).toInt + (h1 m l c n).toInt := tadd (by omega) (by omega)
  have t2 : (h0 m l c n + h1 m l c n + h2 m l c n).toInt = (h0 m l c n).toInt + (h1 m l c n).toInt + (h2 m l c n).toInt := by rw [tadd] <;> rw [t1] <;> omega
  refine ⟨by rw [e, t2]; omega, ?_, fun z => ?_⟩
  · show ((0 : Int32) + hp m l c n).toInt = _
    rw [Int32.zero_add, e, t2]
  · have w0 : wt m (nI l) 0 n = 0 := if_neg fun y => z y.2.1
    have w1 : wt m (nI l) 1 n = 0 := if_neg fun y => z y.2.1
    have w2 : wq m l c n = 0 := if_neg fun y => by
      have := y.2.1
      rw [sE_x (by omega) (by omega) (by omega)] at this
      exact z this
    rw [e, a3 w0, b3 w1, d3 w2]
    rfl
theorem InvM_sM {K : Int} {m : Mt} {l : Nat} {c : Int32} (h : InvM K m) (hK : K ≤ 2000000000) (hl : l < nb m) (hc : 0 ≤ c.toInt ∧ c.toInt ≤ 99999) (hf : Fit m (fun n => nil n + hp m l c n)) : InvM (K + 200000) (sM m l c) := by
  have hcn := h.1
  have hb := hcn.b.2
  have hn := hcn.c.2
  obtain ⟨qa, qb, qd⟩ := sQ_b (l := l) h hK hc
  have lo : ∀ k, k < 10 → k ≠ 4 → sM m l c k = m k := fun k h1 h2 => by
    unfold sM
    rw [endM_out (by omega), wo_out (by omega) (by omega), sB_x h2, coJ_out (by omega) (by omega)]
  have e4 : sM m l c 4 = sQ m l c - sA2 m l c := by
    unfold sM sB
    rw [endM_out (by omega), wo_out (by omega) (by omega), upd_eq]
  have bn : ∀ n w, w < 7 → w ≠ 3 → w ≠ 5 → sB m l c (144 + 7 * n + w) = m (144 + 7 * n + w) := fun n w h1 h2 h3 => by rw [sB_x (by omega), coJ_nx h1 h2 h3]
  have ll : ∀ l', l' < 10 → ∀ w, w < 11 → woJ (sB m l c) l (nc m) (34 + 11 * l' + w) = m (34 + 11 * l' + w) := fun l' h1 w hw => by
    rw [wo_out (by omega) (by omega), sB_x (by omega), coJ_out (by omega) (by omega)]
  have hg : ∀ n, n < nc m → 0 ≤ (nil n + hp m l c n).toInt ∧ (nil n + hp m l c n).toInt ≤ 2000000 := fun n hn' => by
    have := (hp_z (l := l) h hK hc hn').1
    show 0 ≤ ((0 : Int32) + hp m l c n).toInt ∧ ((0 : Int32) + hp m l c n).toInt ≤ 2000000
    rw [Int32.zero_add]
    omega
  have hnot : ∀ n, n < nc m → ¬ m (144 + 7 * n + 1) = nI l → sM m l c (144 + 7 * n + 3) = m (144 + 7 * n + 3) ∧ sM m l c (144 + 7 * n + 6) = m (144 + 7 * n + 6) := fun n hn' hne => by
    have e1 : ¬ (n < nc m ∧ sB m l c (144 + 7 * n + 1) = nI l) := fun z => hne (by rw [← bn n 1 (by omega) (by omega) (by omega)]; exact z.2)
    unfold sM
    rw [endM_out (by omega), endM_out (by omega), wo_n (by omega), wo_n (by omega), if_neg e1, if_neg e1, sB_x (by omega), coJ_n3 hn', (hp_z (l := l) h hK hc hn').2.2 hne, Int32.sub_zero, bn n 6 (by omega) (by omega) (by omega)]
    exact ⟨rfl, rfl⟩
  refine InvM_pay h hl (lo 0 (by omega) (by omega)) (lo 1 (by omega) (by omega)) (lo 2 (by omega) (by omega)) (lo 3 (by omega) (by omega)) (lo 5 (by omega) (by omega)) (by rw [e4, qd]; omega) (fun i hi => ?_) (fun i g1 g2 => ?_) (fun l' g1 g2 w hw' => ?_) ?_ (fun n hn' w hw' => ?_) (fun n hn' => ?_) hnot (fun z => ?_) ?_
  · unfold sM
    rw [endM_out (by omega), wo_c hi, sB_x (by omega)]
    exact cash_fit hcn h.hd h.2.2.2.2.1 hg hf i hi
  · have d := h.2.2.2.2.2.2.2.2 i g1 g2
    unfold sM
    have na' : na (sB m l c) = na m := by unfold na; rw [sB_x (by omega), coJ_123.1]
    have dd := (sG_dead (g := wt (sB m l c) (nI l) 2) (sB_cnt (l := l) (c := c) hcn) (sB_hd h.hd) (i := i) (by rw [na']; exact g1) g2 (nc m) (by rw [sB_n]; exact Nat.le_refl _)).1
    rw [endM_out (by omega), endM_out (by omega), wo_i g2, wo_l g2, dd, sB_x (by omega), sB_x (by omega), coJ_i g2, coJ_l g2, d.1, d.2, (sG_dead hcn h.hd g1 g2 (nc m) (Nat.le_refl _)).1]
    exact ⟨rfl, rfl⟩
  · unfold sM
    rw [endM_out (by omega), ll l' g1 w hw']
  · unfold sM
    refine endM_lok (m0 := m) ((h.2.2.2.2.2.1 l hl).congr (by rw [wo_out (by omega) (by omega), sB_x (by omega), coJ_out (by omega) (by omega)]) fun w hw => ll l (by omega) w hw) (by rw [wo_out (by omega) (by omega), sB_x (by omega), coJ_out (by omega) (by omega)]; exact h.2.1.1) (by decide) (by decide)
  · unfold sM
    rw [endM_out (by omega), wo_nx (by omega) (by omega) (by omega), bn n w (by omega) (by omega) (by omega)]
  · by_cases e : m (144 + 7 * n + 1) = nI l
    · have e1 : n < nc m ∧ sB m l c (144 + 7 * n + 1) = nI l := ⟨hn', by rw [bn n 1 (by omega) (by omega) (by omega)]; exact e⟩
      unfold sM
      rw [endM_out (by omega), wo_n (by omega), if_pos e1, if_pos rfl]
      decide
    · rw [(hnot n hn' e).1]
      exact h.pb n hn'
  · exact absurd endM_in.1 z
  · unfold SmK
    have e3 : sM m l c (34 + 11 * l + 3) = 3 := endM_in.1
    rw [e3]
    exact ⟨fun z => absurd z (by decide), fun z => absurd z (by decide)⟩
theorem sell_m {K : Int} {σ : Sto} {Z : Zt} {l : Nat} {c : Int32} (hI : InvM K Z.1) (hK : K ≤ 2000000000) (hl : l < nb Z.1) (hr : Z.1 (34 + 11 * l + 3) = 1) (hcb : 0 ≤ c.toInt ∧ c.toInt ≤ 99999) (hR : RMid σ Z Z.1 0) : ∃ τ C, RS τ Z (sM Z.1 l c) C ∧ (∀ i, i < 8 → C i = (Z.1 (10 + 3 * i)).toInt + CI Z.1 (fun n => nil n + hp Z.1 l c n) i (nc Z.1)) ∧ SameC σ τ ∧ (if inb (4 : Int32) 564 then (bd (dc_X10_payPrincipal (nI l) (0 : Int32) c σ) fun r11 σ12 => (bd (dc_X10_payPrincipal (nI l) (1 : Int32) r11 σ12) fun r13 σ14 => (if inb (4 : Int32) 564 then (if inb (4 : Int32) 564 then (bd (dc_X10_payPrincipal (nI l) (0 : Int32) ((up σ14 304 0 (4 : Int32).toNatClampNeg ((σ.1 304 0 (4 : Int32).toNatClampNeg) + r13)).1 304 0 (4 : Int32).toNatClampNeg) (up σ14 304 0 (4 : Int32).toNatClampNeg ((σ.1 304 0 (4 : Int32).toNatClampNeg) + r13))) fun r15 σ16 => (if inb (4 : Int32) 564 then wh2 (fun (rec17 : Int32 → Int32 → Sto → Option (Int32 × Sto)) (x19 : Int32) (x20 : Int32) (σ18 : Sto) => (if inb (3 : Int32) 564 then (if (σ18.1 304 0 (3 : Int32).toNatClampNeg) ≤ x20 then (bv (dc_X10_be (nI l) (4 : Int32) (0 : Int32) σ18) fun σ22 => (bv (dc_X10_be (nI l) (6 : Int32) (0 : Int32) σ22) fun σ24 => (bv (dc_X10_be (nI l) (7 : Int32) (0 : Int32) σ24) fun σ26 => (bv (dc_X10_ends (nI l) (3 : Int32) σ26) fun σ28 => (bd (dc_X10_acted x19 σ28) fun r29 σ30 => some (r29, σ30)))))) else (bd (dc_X10_ofNote x20 (1 : Int32) σ18) fun r31 σ32 => (if r31 = (nI l) then (bd (dc_X10_ofNote x20 (3 : Int32) σ32) fun r33 σ34 => (bv (dc_X10_more x20 (6 : Int32) r33 σ34) fun σ36 => (bv (dc_X10_more x20 (3 : Int32) (-r33) σ36) fun σ38 => (bd (dc_X10_ofNote x20 (0 : Int32) σ38) fun r39 σ40 => (if inb (((10 : Int32) + ((3 : Int32) * r39)) + (2 : Int32)) 564 then (if inb (((10 : Int32) + ((3 : Int32) * r39)) + (2 : Int32)) 564 then rec17 (x19 + r33) (x20 + 1) (up σ40 304 0 (((10 : Int32) + ((3 : Int32) * r39)) + (2 : Int32)).toNatClampNeg ((σ40.1 304 0 (((10 : Int32) + ((3 : Int32) * r39)) + (2 : Int32)).toNatClampNeg) + r33)) else none) else none))))) else rec17 x19 (x20 + 1) σ32))) else none)) FU (0 : Int32) (0 : Int32) (up σ16 304 0 (4 : Int32).toNatClampNeg r15) else none)) else none) else none))) else none) = (bd (dc_X10_acted (wsm (sB Z.1 l c) l (nc Z.1)) τ) fun r29 σ30 => some (r29, σ30)) := by
  obtain ⟨m, Zx⟩ := Z
  show ∃ τ C, RS τ (m, Zx) (sM m l c) C ∧ (∀ i, i < 8 → C i = (m (10 + 3 * i)).toInt + CI m (fun n => nil n + hp m l c n) i (nc m)) ∧ SameC σ τ ∧ (if inb (4 : Int32) 564 then (bd (dc_X10_payPrincipal (nI l) (0 : Int32) c σ) fun r11 σ12 => (bd (dc_X10_payPrincipal (nI l) (1 : Int32) r11 σ12) fun r13 σ14 => (if inb (4 : Int32) 564 then (if inb (4 : Int32) 564 then (bd (dc_X10_payPrincipal (nI l) (0 : Int32) ((up σ14 304 0 (4 : Int32).toNatClampNeg ((σ.1 304 0 (4 : Int32).toNatClampNeg) + r13)).1 304 0 (4 : Int32).toNatClampNeg) (up σ14 304 0 (4 : Int32).toNatClampNeg ((σ.1 304 0 (4 : Int32).toNatClampNeg) + r13))) fun r15 σ16 => (if inb (4 : Int32) 564 then wh2 (fun (rec17 : Int32 → Int32 → Sto → Option (Int32 × Sto)) (x19 : Int32) (x20 : Int32) (σ18 : Sto) => (if inb (3 : Int32) 564 then (if (σ18.1 304 0 (3 : Int32).toNatClampNeg) ≤ x20 then (bv (dc_X10_be (nI l) (4 : Int32) (0 : Int32) σ18) fun σ22 => (bv (dc_X10_be (nI l) (6 : Int32) (0 : Int32) σ22) fun σ24 => (bv (dc_X10_be (nI l) (7 : Int32) (0 : Int32) σ24) fun σ26 => (bv (dc_X10_ends (nI l) (3 : Int32) σ26) fun σ28 => (bd (dc_X10_acted x19 σ28) fun r29 σ30 => some (r29, σ30)))))) else (bd (dc_X10_ofNote x20 (1 : Int32) σ18) fun r31 σ32 => (if r31 = (nI l) then (bd (dc_X10_ofNote x20 (3 : Int32) σ32) fun r33 σ34 => (bv (dc_X10_more x20 (6 : Int32) r33 σ34) fun σ36 => (bv (dc_X10_more x20 (3 : Int32) (-r33) σ36) fun σ38 => (bd (dc_X10_ofNote x20 (0 : Int32) σ38) fun r39 σ40 => (if inb (((10 : Int32) + ((3 : Int32) * r39)) + (2 : Int32)) 564 then (if inb (((10 : Int32) + ((3 : Int32) * r39)) + (2 : Int32)) 564 then rec17 (x19 + r33) (x20 + 1) (up σ40 304 0 (((10 : Int32) + ((3 : Int32) * r39)) + (2 : Int32)).toNatClampNeg ((σ40.1 304 0 (((10 : Int32) + ((3 : Int32) * r39)) + (2 : Int32)).toNatClampNeg) + r33)) else none) else none))))) else rec17 x19 (x20 + 1) σ32))) else none)) FU (0 : Int32) (0 : Int32) (up σ16 304 0 (4 : Int32).toNatClampNeg r15) else none)) else none) else none))) else none) = (bd (dc_X10_acted (wsm (sB m l c) l (nc m)) τ) fun r29 σ30 => some (r29, σ30))
  have hI : InvM K m := hI
  have hl : l < nb m := hl
  have hr : m (34 + 11 * l + 3) = 1 := hr
  have hR : RMid σ (m, Zx) m 0 := hR
  have hc := hI.1
  have hb := hc.b.2
  have hn := hc.c.2
  obtain ⟨qa, qb, qd⟩ := sQ_b (l := l) hI hK hcb
  obtain ⟨sa, sb, se, sf, sg⟩ := sA_b (l := l) hI hcb
  have r0 : RS σ (m, Zx) m (fun i => (m (10 + 3 * i)).toInt) := RS.start (Z := (m, Zx)) hI hR
  obtain ⟨σ2, t1, t2, t3⟩ := payP_m r0 hc hI.hd hI.pb (nI l) 0 (c := c) hcb.1
  have t1' : dc_X10_payPrincipal (nI l) 0 c σ = some (c - sA0 m l c, σ2) := t1
  have t2' : RS σ2 (m, Zx) (coJ m nil (h0 m l c) (nc m)) (fun i => (m (10 + 3 * i)).toInt + CI m (h0 m l c) i (nc m)) := t2
  have E1n : nc (coJ m nil (h0 m l c) (nc m)) = nc m := by unfold nc; rw [coJ_123.2.2]
  have E1w := wt_co (E := m) (a := nil) (b := h0 m l c) (l := nI l) (s := 1) (fun n g1 g2 => by
    have g3 := g2.2.resolve_left (by decide)
    refine (hh_b (l := l) hI hcb (n := n) (by omega)).1.2.2 (if_neg fun y => y.2.2.elim (by decide) fun y => ?_)
    rw [g3] at y
    exact absurd y (by decide))
  have pb1 : Pb (coJ m nil (h0 m l c) (nc m)) := fun n g1 => by
    rw [E1n] at g1
    obtain ⟨v1, v2, v3⟩ := sE_v (l := l) hI hcb g1
    obtain ⟨⟨a1, a2, a3⟩, ⟨b1, b2, b3⟩⟩ := hh_b (l := l) hI hcb (n := n) (by omega)
    have := hI.pb n g1
    rw [coJ_n3 g1, tsub] <;> omega
  obtain ⟨σ3, u1, u2, u3⟩ := payP_m t2' (coJ_cnt hc) (coJ_hd hI.hd) pb1 (nI l) 1 (c := c - sA0 m l c) (by omega)
  rw [E1w.2, show mn (pr m (nI l) 1) (c - sA0 m l c) = sA1 m l c from rfl] at u1
  rw [E1w.1, E1w.2, E1n, show mn (pr m (nI l) 1) (c - sA0 m l c) = sA1 m l c from rfl, show sh (sA1 m l c) (wt m (nI l) 1) = h1 m l c from rfl, show coJ (coJ m nil (h0 m l c) (nc m)) nil (h1 m l c) (nc m) = sE m l c from rfl] at u2
  have r4 := u2.set (k := 4) (v := sQ m l c) (nCash (by omega))
  have em : ∀ x, x ≠ 4 → upd (sE m l c) 4 (sQ m l c) x = sE m l c x := fun x hx => upd_ne hx
  have c4 : Cnt (upd (sE m l c) 4 (sQ m l c)) := (sE_cnt hc).same (em 1 (by omega)) (em 2 (by omega)) (em 3 (by omega))
  have n4 : nc (upd (sE m l c) 4 (sQ m l c)) = nc m := by unfold nc; rw [em 3 (by omega)]; exact sE_n
  have hd4 : Hd (upd (sE m l c) 4 (sQ m l c)) := fun n g1 => by
    rw [n4] at g1
    unfold isI
    rw [em _ (by omega), em 1 (by omega)]
    unfold sE
    rw [coJ_123.1, coJ_123.1, coJ_j0, coJ_j0]
    exact hI.hd n g1
  have pb4 : Pb (upd (sE m l c) 4 (sQ m l c)) := fun n g1 => by
    rw [n4] at g1
    rw [em _ (by omega)]
    exact (sE_v hI hcb g1).2
  have w4 : wt (upd (sE m l c) 4 (sQ m l c)) (nI l) 0 = wq m l c := wt_cg (em 3 (by omega)) (fun n _ w _ => em _ (by omega)) (nI l) 0
  have pr4 : pr (upd (sE m l c) 4 (sQ m l c)) (nI l) 0 = pr (sE m l c) (nI l) 0 := pr_cg (em 3 (by omega)) (fun n _ w _ => em _ (by omega)) (nI l) 0
  obtain ⟨σ5, v1, v2, v3⟩ := payP_m r4 c4 hd4 pb4 (nI l) 0 (c := sQ m l c) qa.1
  rw [pr4, show mn (pr (sE m l c) (nI l) 0) (sQ m l c) = sA2 m l c from rfl] at v1
  rw [w4, pr4, n4, show mn (pr (sE m l c) (nI l) 0) (sQ m l c) = sA2 m l c from rfl, show sh (sA2 m l c) (wq m l c) = h2 m l c from rfl] at v2
  have r6 := v2.set (k := 4) (v := sQ m l c - sA2 m l c) (nCash (by omega))
  have hE : ∀ x, upd (coJ (upd (sE m l c) 4 (sQ m l c)) nil (h2 m l c) (nc m)) 4 (sQ m l c - sA2 m l c) x = sB m l c x := fun x => by
    unfold sB
    by_cases e : x = 4
    · rw [e, upd_eq, upd_eq]
    · rw [upd_ne e, upd_ne e, coJ_upd (by omega), upd_ne e]
      unfold sE
      rw [funext (coJ_add (m := m) (a := nil) (b := h0 m l c) (a' := nil) (b' := h1 m l c) (j := nc m)), coJ_add]
      have ea : (fun n => nil n + nil n + nil n) = nil := rfl
      have eb : (fun n => h0 m l c n + h1 m l c n + h2 m l c n) = hp m l c := funext fun n => by
        show _ = (0 : Int32) + h0 m l c n + h1 m l c n + h2 m l c n
        rw [Int32.zero_add]
      rw [ea, eb]
  have hC : ∀ i, i < 8 → (m (10 + 3 * i)).toInt + CI m (h0 m l c) i (nc m) + CI (coJ m nil (h0 m l c) (nc m)) (h1 m l c) i (nc m) + CI (upd (sE m l c) 4 (sQ m l c)) (h2 m l c) i (nc m) = (m (10 + 3 * i)).toInt + CI m (fun n => nil n + hp m l c n) i (nc m) := fun i hi => by
    have a2 : CI (coJ m nil (h0 m l c) (nc m)) (h1 m l c) i (nc m) = CI m (h1 m l c) i (nc m) := si_congr fun n _ => by rw [coJ_j0]
    have a3 : CI (upd (sE m l c) 4 (sQ m l c)) (h2 m l c) i (nc m) = CI m (h2 m l c) i (nc m) := si_congr fun n _ => by rw [em _ (by omega)]; unfold sE; rw [coJ_j0, coJ_j0]
    have a4 : CI m (fun n => nil n + hp m l c n) i (nc m) = CI m (h0 m l c) i (nc m) + CI m (h1 m l c) i (nc m) + CI m (h2 m l c) i (nc m) := by
      unfold CI
      rw [← si_add, ← si_add]
      refine si_congr fun n hn' => ?_
      have x4 := (hp_z (l := l) hI hK hcb hn').2.1
      by_cases d : m (144 + 7 * n) = nI i
      · rw [if_pos d, if_pos d, if_pos d, if_pos d]; exact x4
      · rw [if_neg d, if_neg d, if_neg d, if_neg d]; rfl
    rw [a2, a3, a4]
    omega
  have rB := r6.congr (E' := sB m l c) (fun x _ => hE x) hC
  obtain ⟨τ, e1, e2, e3⟩ := wo_m (l := l) rB (by omega) (sB_cnt hc) (sB_hd hI.hd) (fun n g1 g2 => by
    rw [sB_n] at g1
    rw [sB_x (by omega), coJ_nx (by omega) (by omega) (by omega)] at g2
    rw [sB_x (by omega), coJ_nx (by omega) (by omega) (by omega)]
    refine (hI.2.2.2.2.2.2.1 n g1).2.2.2.2 ?_
    rw [g2, nI_clamp (by omega), hr]
    decide)
  rw [sB_n] at e1 e3
  have u4 : σ.1 304 0 4 = m 4 := hR.1 4 (by decide)
  refine ⟨τ, _, e1, fun i hi => rfl, t3.trans (u3.trans (SameC.trans (SameC_up (f := 304) rfl) (v3.trans (SameC.trans (SameC_up (f := 304) rfl) e2)))), ?_⟩
  rw [if_pos ib_4, t1', bd_s, u1, bd_s, if_pos ib_4, if_pos ib_4, cl_4, u4, up_eq, show m 4 + (c - sA0 m l c - sA1 m l c) = sQ m l c from rfl, v1, bd_s, if_pos ib_4]
  exact e3
