/-! THE LAW SELLS A LOAN -/
theorem wt_u {m : Mt} {a : Nat} {v : Int32} (ha : a < 10) (h3 : a ≠ 3) (l s : Int32) : wt (upd m a v) l s = wt m l s ∧ pr (upd m a v) l s = pr m l s := ⟨wt_cg (upd_ne (by omega)) (fun n _ w _ => upd_ne (by omega)) l s, pr_cg (upd_ne (by omega)) (fun n _ w _ => upd_ne (by omega)) l s⟩
theorem coJ_pb {K : Int} {m : Mt} {l : Nat} {c : Int32} (h : InvM K m) (hc : 0 ≤ c.toInt ∧ c.toInt ≤ 99999) : Pb (coJ m nil (h0 m l c) (nc m)) := fun n hn => by
  have e : nc (coJ m nil (h0 m l c) (nc m)) = nc m := by unfold nc; rw [coJ_123.2.2]
  rw [e] at hn
  have hn60 : n < 60 := by have := h.1.c.2; omega
  have v := (hh_b (l := l) h hc hn60).1
  have hw := wt_01 h (nI l) hn
  have hp := h.pb n hn
  rw [coJ_n3 hn]
  have hle : (wt m (nI l) 0 n).toInt ≤ (m (144 + 7 * n + 3)).toInt := by
    rcases hw with ⟨-, -, w0, w1⟩ | ⟨-, -, w1, w0⟩ | ⟨-, w0, w1⟩ <;> rw [w0]
    · exact Int.le_refl _
    · exact hp.1
    · exact hp.1
  rw [tsub] <;> omega
/-- the law's three repayments of a sale, and the pool -/
theorem lsell_run {K : Int} {m : Mt} {l : Nat} {c : Int32} {S : Sto} (hI : InvM K m) (hK : K ≤ 2000000000) (hL : L3 m) (hl : l < nb m) (hc : 0 ≤ c.toInt ∧ c.toInt ≤ 99999) (hS : Lr S m) :
    ∃ τ1, dc_L_repays (nI l) 0 c S = some (c - sA0 m l c, τ1) ∧ FrL S τ1 ∧ ∃ τ2, dc_L_repays (nI l) 1 (c - sA0 m l c) τ1 = some ((c - sA0 m l c) - sA1 m l c, τ2) ∧ FrL τ1 τ2 ∧ Lr τ2 (sE m l c) ∧ ∃ τ3, dc_L_repays (nI l) 0 (sQ m l c) (up τ2 304 0 3 (sQ m l c)) = some (sQ m l c - sA2 m l c, τ3) ∧ FrL (up τ2 304 0 3 (sQ m l c)) τ3 ∧ Lr (up τ3 304 0 3 (sQ m l c - sA2 m l c)) (sB m l c) := by
  have hcc := hI.1
  have hn := hcc.c.2
  have hb := sA_b (l := l) hI hc
  have hq := sQ_b (l := l) hI hK hc
  have cs := hb.2.1
  obtain ⟨τ1, a1, a2, a3⟩ := lrep_eq hS hL hI.pb hI.hd (nI l) 0 0 (Or.inr ⟨by decide, rfl, by decide⟩) (c := c) hc.1
  rw [show mn (pr m (nI l) 0) c = sA0 m l c from rfl] at a1 a2
  rw [show sh (sA0 m l c) (wt m (nI l) 0) = h0 m l c from rfl] at a2
  have E1n : nc (coJ m nil (h0 m l c) (nc m)) = nc m := by unfold nc; rw [coJ_123.2.2]
  have E1w := wt_co (E := m) (a := nil) (b := h0 m l c) (l := nI l) (s := 1) (fun n h1 h2 => by
    have h3 := h2.2.resolve_left (by decide)
    have v := (hh_b (l := l) (c := c) hI hc (show n < 60 by omega)).1
    rcases wt_01 hI (nI l) h1 with ⟨w1, w2, w3, w4⟩ | ⟨w1, w2, w3, w4⟩ | ⟨w1, w3, w4⟩
    · rw [h3] at w2
      exact absurd w2 (by decide)
    · exact v.2.2 w4
    · exact absurd h2.1 w1)
  obtain ⟨τ2, b1, b2, b3⟩ := lrep_eq a2 hL.co (coJ_pb hI hc) (coJ_hd hI.hd) (nI l) 1 1 (Or.inr ⟨by decide, rfl, by decide⟩) (c := c - sA0 m l c) (by omega)
  rw [E1w.1, E1w.2, E1n, show mn (pr m (nI l) 1) (c - sA0 m l c) = sA1 m l c from rfl, show sh (sA1 m l c) (wt m (nI l) 1) = h1 m l c from rfl] at b2
  rw [E1w.2, show mn (pr m (nI l) 1) (c - sA0 m l c) = sA1 m l c from rfl] at b1
  refine ⟨τ1, a1, a3, τ2, b1, b3, b2, ?_⟩
  have b2' : Lr τ2 (sE m l c) := b2
  have hL2 : L3 (sE m l c) := hL.co.co
  have c2 : Lr (up τ2 304 0 3 (sQ m l c)) (upd (sE m l c) 4 (sQ m l c)) := b2'.pu rg3
  have w4 := wt_u (m := sE m l c) (a := 4) (v := sQ m l c) (by omega) (by omega) (nI l) 0
  have n4 : nc (upd (sE m l c) 4 (sQ m l c)) = nc m := by
    have : nc (upd (sE m l c) 4 (sQ m l c)) = nc (sE m l c) := by unfold nc; rw [upd_ne (by omega)]
    rw [this, sE_n]
  have hL4 : L3 (upd (sE m l c) 4 (sQ m l c)) := ⟨(sE_cnt hcc).same (upd_ne (by omega)) (upd_ne (by omega)) (upd_ne (by omega)), by rw [n4]; exact hL.2.1, by rw [upd_ne (by omega)]; exact hL2.2.2.1, by rw [upd_ne (by omega)]; exact hL2.2.2.2⟩
  have hE4 : Hd (upd (sE m l c) 4 (sQ m l c)) := fun n hn' => by
    rw [n4] at hn'
    unfold isI
    rw [upd_ne (by omega), upd_ne (by omega)]
    exact coJ_hd (coJ_hd hI.hd) n (by show n < nc (sE m l c); rw [sE_n]; exact hn')
  have pE4 : Pb (upd (sE m l c) 4 (sQ m l c)) := fun n hn' => by
    rw [n4] at hn'
    rw [upd_ne (by omega)]
    exact sE_pb hI hc n (by rw [sE_n]; exact hn')
  obtain ⟨τ3, d1, d2, d3⟩ := lrep_eq c2 hL4 pE4 hE4 (nI l) 0 0 (Or.inr ⟨by decide, rfl, by decide⟩) (c := sQ m l c) hq.1.1
  rw [w4.1, w4.2, n4, show mn (pr (sE m l c) (nI l) 0) (sQ m l c) = sA2 m l c from rfl, show sh (sA2 m l c) (wt (sE m l c) (nI l) 0) = h2 m l c from rfl] at d2
  rw [w4.2, show mn (pr (sE m l c) (nI l) 0) (sQ m l c) = sA2 m l c from rfl] at d1
  refine ⟨τ3, d1, d3, (d2.pu rg3).congr fun k _ _ _ _ _ => ?_⟩
  unfold sB
  have e1 : coJ (upd (sE m l c) 4 (sQ m l c)) nil (h2 m l c) (nc m) = upd (coJ (sE m l c) nil (h2 m l c) (nc m)) 4 (sQ m l c) := funext fun k => coJ_upd (by omega) k
  have e2 : coJ (sE m l c) nil (h2 m l c) (nc m) = coJ m nil (hp m l c) (nc m) := funext fun k => by
    unfold sE
    rw [coJ_add]
    have e3 : coJ (coJ m nil (h0 m l c) (nc m)) nil (h1 m l c) (nc m) = coJ m (fun n => nil n + nil n) (fun n => h0 m l c n + h1 m l c n) (nc m) := funext fun k => coJ_add k
    rw [coJ_add]
    have ea : (fun n => nil n + (nil n + nil n)) = nil := rfl
    have eb : (fun n => h0 m l c n + (h1 m l c n + h2 m l c n)) = hp m l c := funext fun n => by
      show h0 m l c n + (h1 m l c n + h2 m l c n) = (0 : Int32) + h0 m l c n + h1 m l c n + h2 m l c n
      rw [Int32.zero_add, Int32.add_assoc]
    rw [ea, eb]
  rw [e1, e2]
  by_cases k4 : k = 4
  · rw [k4, upd_eq, upd_eq]
  · rw [upd_ne k4, upd_ne k4, upd_ne k4]
