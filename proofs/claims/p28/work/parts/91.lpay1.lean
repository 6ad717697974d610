/-! THE LAW PAYS: what its numbers come to -/
/-- the loan behind a payment, as the law writes it -/
def lpM (E : Mt) (l : Nat) (i p : Int32) : Mt := upd (upd (upd (upd (upd (upd E (34 + 11 * l + 6) (E (34 + 11 * l + 6) - i)) (34 + 11 * l + 4) (E (34 + 11 * l + 4) - p)) (34 + 11 * l + 7) (b7 E l p)) (34 + 11 * l + 8) (if E (34 + 11 * l + 6) - i = 0 ∧ b7 E l p = 0 then 0 else E (34 + 11 * l + 8))) (34 + 11 * l + 3) (if E (34 + 11 * l + 4) - p = 0 ∧ E (34 + 11 * l + 6) - i = 0 then 2 else 1)) (34 + 11 * l + 10) (if E (34 + 11 * l + 4) - p = 0 ∧ E (34 + 11 * l + 6) - i = 0 then -5 else E (34 + 11 * l + 10))
theorem lpM_eq {E : Mt} {l : Nat} {i p : Int32} (hr : E (34 + 11 * l + 3) = 1) (hb : E (34 + 11 * l + 4) - p = 0 → b7 E l p = 0) : lpM E l i p = tkM E l i p := by
  have v := tkB_v (E := E) (l := l) (i := i) (p := p)
  have e8 : upd (tkA E l i p) (34 + 11 * l + 8) (if E (34 + 11 * l + 6) - i = 0 ∧ b7 E l p = 0 then 0 else E (34 + 11 * l + 8)) = tkB E l i p := by
    unfold tkB
    by_cases c : E (34 + 11 * l + 6) - i = 0 ∧ b7 E l p = 0
    · rw [if_pos c, if_pos c]
    · rw [if_neg c, if_neg c]
      refine upd_same ?_
      exact (tkA_v (E := E) (l := l) (i := i) (p := p)).2.2.2 _ (by omega) (by omega) (by omega)
  have eA : lpM E l i p = upd (upd (tkB E l i p) (34 + 11 * l + 3) (if E (34 + 11 * l + 4) - p = 0 ∧ E (34 + 11 * l + 6) - i = 0 then 2 else 1)) (34 + 11 * l + 10) (if E (34 + 11 * l + 4) - p = 0 ∧ E (34 + 11 * l + 6) - i = 0 then -5 else E (34 + 11 * l + 10)) := by
    rw [← e8]
    rfl
  rw [eA]
  unfold tkM
  by_cases c : E (34 + 11 * l + 4) - p = 0 ∧ E (34 + 11 * l + 6) - i = 0
  · rw [if_pos c, if_pos c, if_pos ⟨c.2, c.1⟩]
    have z7 := hb c.1
    unfold endM
    rw [upd_same (f := upd (tkB E l i p) (34 + 11 * l + 3) 2) (k := 34 + 11 * l + 4) (by rw [upd_ne (by omega), v.2.1]; exact c.1), upd_same (f := upd (tkB E l i p) (34 + 11 * l + 3) 2) (k := 34 + 11 * l + 6) (by rw [upd_ne (by omega), v.1]; exact c.2), upd_same (f := upd (tkB E l i p) (34 + 11 * l + 3) 2) (k := 34 + 11 * l + 7) (by rw [upd_ne (by omega), v.2.2.1]; exact z7), upd_same (f := upd (tkB E l i p) (34 + 11 * l + 3) 2) (k := 34 + 11 * l + 8) (by rw [upd_ne (by omega), v.2.2.2.1, if_pos ⟨c.2, z7⟩])]
  · rw [if_neg c, if_neg c, if_neg (fun z => c ⟨z.2, z.1⟩)]
    rw [upd_same (f := tkB E l i p) (k := 34 + 11 * l + 3) ((v.2.2.2.2 _ (by omega) (by omega) (by omega) (by omega)).trans hr)]
    exact upd_same (v.2.2.2.2 _ (by omega) (by omega) (by omega) (by omega))
/-- the sharing and the repayments of a payment, run by the law -/
theorem lpay_run {K : Int} {m : Mt} {l : Nat} {c : Int32} {S : Sto} (hI : InvM K m) (hL : L3 m) (hl : l < nb m) (q : PN m l c) (hS : Lr S (upd (upd m (6 + svc m l) (m (6 + svc m l) + pFee m l c)) 4 (m 4 + pPool m l c))) :
    ∃ τ1, dc_L_share (nI l) (-1) (pInt m l c - pPool m l c) S = some τ1 ∧ FrL S τ1 ∧ Lr τ1 (upd (upd m (6 + svc m l) (m (6 + svc m l) + pFee m l c)) 4 (m 4 + pPool m l c)) ∧ (∀ n, n < nc m → τ1.1 384 0 n = gI m l c n) ∧
    ∀ τ2, Lr τ2 (coJ (upd (upd m (6 + svc m l) (m (6 + svc m l) + pFee m l c)) 4 (m 4 + pPool m l c)) (gI m l c) nil (nc m)) → ∃ τ3, dc_L_repays (nI l) 0 (pPri m l c) τ2 = some (pPri m l c - pSen m l c, τ3) ∧ FrL τ2 τ3 ∧ ∃ τ4, dc_L_repays (nI l) 1 (pPri m l c - pSen m l c) τ3 = some (0, τ4) ∧ FrL τ3 τ4 ∧ Lr τ4 (pyB m l c) := by
  have hc := hI.1
  have hb := hc.b.2
  have hn := hc.c.2
  obtain ⟨s1, s2⟩ := svc_eq hI hl
  obtain ⟨m1, hm1⟩ : ∃ m1, m1 = upd (upd m (6 + svc m l) (m (6 + svc m l) + pFee m l c)) 4 (m 4 + pPool m l c) := ⟨_, rfl⟩
  rw [← hm1] at hS ⊢
  have em : ∀ x, ¬ (4 ≤ x ∧ x < 10) → m1 x = m x := fun x hx => by rw [hm1, upd_ne (by omega), upd_ne (by omega)]
  have c1 : Cnt m1 := hc.same (em 1 (by omega)) (em 2 (by omega)) (em 3 (by omega))
  have n1 : nc m1 = nc m := by unfold nc; rw [em 3 (by omega)]
  have hd1 : Hd m1 := fun n h1 => by
    unfold isI
    rw [em _ (by omega), em 1 (by omega)]
    exact hI.hd n (by omega)
  have pb1 : Pb m1 := fun n h1 => by rw [em _ (by omega)]; exact hI.pb n (by omega)
  have w1 : ∀ s, wt m1 (nI l) s = wt m (nI l) s := fun s => wt_cg (em 3 (by omega)) (fun n _ w _ => em _ (by omega)) (nI l) s
  have pr1 : ∀ s, pr m1 (nI l) s = pr m (nI l) s := fun s => pr_cg (em 3 (by omega)) (fun n _ w _ => em _ (by omega)) (nI l) s
  have L1 : L3 m1 := ⟨c1, by rw [n1]; exact hL.2.1, by rw [em 1 (by omega)]; exact hL.2.2.1, by rw [em 2 (by omega)]; exact hL.2.2.2⟩
  obtain ⟨σ2, t1, t2, t3⟩ := lshare_eq hS c1 L1.2.1 pb1 (nI l) (-1) 2 (Or.inl ⟨by decide, rfl⟩) (c := pInt m l c - pPool m l c) (by have := q.d; have := q.q0; have := q.q1; have := q.i1; omega)
  rw [w1 2, n1] at t3
  have E1n : nc (coJ m1 (gI m l c) nil (nc m)) = nc m := by unfold nc; rw [coJ_123.2.2, em 3 (by omega)]
  have E1w := wt_co (E := m1) (a := gI m l c) (b := nil) (l := nI l) (s := 0) (fun _ _ _ => rfl)
  have E1w1 := wt_co (E := m1) (a := gI m l c) (b := nil) (l := nI l) (s := 1) (fun _ _ _ => rfl)
  rw [n1] at E1w E1w1
  have pb2 : Pb (coJ m1 (gI m l c) nil (nc m)) := fun n h1 => by
    rw [E1n] at h1
    rw [coJ_n3 h1, em _ (by omega)]
    show 0 ≤ (m (144 + 7 * n + 3) - (0 : Int32)).toInt ∧ (m (144 + 7 * n + 3) - (0 : Int32)).toInt ≤ 99999
    rw [Int32.sub_zero]
    exact hI.pb n h1
  refine ⟨σ2, t1, FrL_W t2, hS.fr t2, t3, fun τ2 hτ => ?_⟩
  obtain ⟨σ3, u1, u2, u3⟩ := lrep_eq hτ L1.co pb2 (coJ_hd hd1) (nI l) 0 0 (Or.inr ⟨by decide, rfl, by decide⟩) (c := pPri m l c) q.p0
  rw [E1w.1, E1w.2, w1, pr1, E1n, show mn (pr m (nI l) 0) (pPri m l c) = pSen m l c from rfl, show sh (pSen m l c) (wt m (nI l) 0) = g0 m l c from rfl] at u2
  rw [E1w.2, pr1, show mn (pr m (nI l) 0) (pPri m l c) = pSen m l c from rfl] at u1
  have E2n : nc (coJ (coJ m1 (gI m l c) nil (nc m)) nil (g0 m l c) (nc m)) = nc m := by unfold nc; rw [coJ_123.2.2, coJ_123.2.2, em 3 (by omega)]
  have E2w := wt_co (E := coJ m1 (gI m l c) nil (nc m)) (a := nil) (b := g0 m l c) (l := nI l) (s := 1) (fun n h1 h2 => by
    rw [E1n] at h1
    refine (gp_b hI q h1).2.2.2.2 ?_
    have := h2.2.resolve_left (by decide)
    rw [coJ_nx (by omega) (by omega) (by omega), em _ (by omega)] at this
    exact this)
  rw [E1n] at E2w
  have pb3 : Pb (coJ (coJ m1 (gI m l c) nil (nc m)) nil (g0 m l c) (nc m)) := fun n h1 => by
    rw [E2n] at h1
    obtain ⟨v1, v2, v3, v4, v5⟩ := gp_b hI q h1
    obtain ⟨x1, x2, x3, -⟩ := g_b hI q (n := n) (by omega)
    have := hI.pb n h1
    rw [coJ_n3 h1, coJ_n3 h1, em _ (by omega)]
    show 0 ≤ (m (144 + 7 * n + 3) - (0 : Int32) - g0 m l c n).toInt ∧ (m (144 + 7 * n + 3) - (0 : Int32) - g0 m l c n).toInt ≤ 99999
    rw [Int32.sub_zero, tsub] <;> omega
  -- juniors
  have hjn : 0 ≤ (pPri m l c - pSen m l c).toInt := by
    have := q.j0; have := q.s2
    show 0 ≤ (pJun m l c).toInt
    omega
  obtain ⟨σ4, v1, v2, v3⟩ := lrep_eq u2 L1.co.co pb3 (coJ_hd (coJ_hd hd1)) (nI l) 1 1 (Or.inr ⟨by decide, rfl, by decide⟩) (c := pPri m l c - pSen m l c) hjn
  have emn : mn (pr m (nI l) 1) (pPri m l c - pSen m l c) = pJun m l c := by
    show mn (pr m (nI l) 1) (pJun m l c) = pJun m l c
    unfold mn
    by_cases d : pr m (nI l) 1 ≤ pJun m l c
    · rw [if_pos d, teq]
      rw [tle] at d
      have := q.j1
      omega
    · rw [if_neg d]
  rw [E2w.1, E2w.2, E1w1.1, E1w1.2, w1, pr1, E2n, emn, show sh (pJun m l c) (wt m (nI l) 1) = g1 m l c from rfl] at v2
  rw [E2w.2, E1w1.2, pr1, emn] at v1
  -- all together
  have hE : ∀ x, coJ (coJ (coJ m1 (gI m l c) nil (nc m)) nil (g0 m l c) (nc m)) nil (g1 m l c) (nc m) x = pyB m l c x := fun x => by
    rw [funext (coJ_add (m := m1) (a := gI m l c) (b := nil) (a' := nil) (b' := g0 m l c) (j := nc m)), coJ_add]
    have ea : (fun n => gI m l c n + nil n + nil n) = gi m l c := funext fun n => by
      show gI m l c n + (0 : Int32) + (0 : Int32) = (0 : Int32) + gI m l c n
      rw [Int32.add_zero, Int32.add_zero, Int32.zero_add]
    have eb : (fun n => nil n + g0 m l c n + g1 m l c n) = gp m l c := rfl
    rw [ea, eb, hm1, coJ_upd (by omega)]
    unfold pyB
    have := funext (coJ_upd (m := m) (a := gi m l c) (b := gp m l c) (j := nc m) (k0 := 6 + svc m l) (v := m (6 + svc m l) + pFee m l c) (by omega))
    rw [this]
  refine ⟨σ3, u1, u3, σ4, ?_, v3, v2.congr fun x _ _ _ _ _ => hE x⟩
  rw [v1]
  exact congrArg (fun z => some (z, σ4)) (Int32.sub_self (pJun m l c))
