/-! pay: the numbers -/
def gI (m : Mt) (l : Nat) (c : Int32) : Gf := sh (pInt m l c - pPool m l c) (wt m (nI l) 2)
def g0 (m : Mt) (l : Nat) (c : Int32) : Gf := sh (pSen m l c) (wt m (nI l) 0)
def g1 (m : Mt) (l : Nat) (c : Int32) : Gf := sh (pJun m l c) (wt m (nI l) 1)
def gi (m : Mt) (l : Nat) (c : Int32) : Gf := fun n => nil n + gI m l c n
def gp (m : Mt) (l : Nat) (c : Int32) : Gf := fun n => nil n + g0 m l c n + g1 m l c n
def PN (m : Mt) (l : Nat) (c : Int32) : Prop := (0 ≤ (pInt m l c).toInt) ∧ ((pInt m l c).toInt ≤ 199999) ∧ ((pInt m l c).toInt ≤ (m (34 + 11 * l + 6)).toInt) ∧ (0 ≤ (pPool m l c).toInt) ∧ ((pPool m l c).toInt ≤ (pInt m l c).toInt) ∧ ((pInt m l c - pPool m l c).toInt = (pInt m l c).toInt - (pPool m l c).toInt) ∧ (0 ≤ (pPri m l c).toInt) ∧ ((pPri m l c).toInt ≤ 199999) ∧ ((pPri m l c).toInt ≤ (m (34 + 11 * l + 4)).toInt) ∧ (0 ≤ (pSen m l c).toInt) ∧ ((pSen m l c).toInt ≤ (pr m (nI l) 0).toInt) ∧ ((pSen m l c).toInt ≤ (pPri m l c).toInt) ∧ ((pJun m l c).toInt = (pPri m l c).toInt - (pSen m l c).toInt) ∧ ((pJun m l c).toInt ≤ (pr m (nI l) 1).toInt)
theorem PN.i0 {m : Mt} {l : Nat} {c : Int32} (h : PN m l c) : 0 ≤ (pInt m l c).toInt := h.1
theorem PN.i1 {m : Mt} {l : Nat} {c : Int32} (h : PN m l c) : (pInt m l c).toInt ≤ 199999 := h.2.1
theorem PN.i2 {m : Mt} {l : Nat} {c : Int32} (h : PN m l c) : (pInt m l c).toInt ≤ (m (34 + 11 * l + 6)).toInt := h.2.2.1
theorem PN.q0 {m : Mt} {l : Nat} {c : Int32} (h : PN m l c) : 0 ≤ (pPool m l c).toInt := h.2.2.2.1
theorem PN.q1 {m : Mt} {l : Nat} {c : Int32} (h : PN m l c) : (pPool m l c).toInt ≤ (pInt m l c).toInt := h.2.2.2.2.1
theorem PN.d {m : Mt} {l : Nat} {c : Int32} (h : PN m l c) : (pInt m l c - pPool m l c).toInt = (pInt m l c).toInt - (pPool m l c).toInt := h.2.2.2.2.2.1
theorem PN.p0 {m : Mt} {l : Nat} {c : Int32} (h : PN m l c) : 0 ≤ (pPri m l c).toInt := h.2.2.2.2.2.2.1
theorem PN.p1 {m : Mt} {l : Nat} {c : Int32} (h : PN m l c) : (pPri m l c).toInt ≤ 199999 := h.2.2.2.2.2.2.2.1
theorem PN.p2 {m : Mt} {l : Nat} {c : Int32} (h : PN m l c) : (pPri m l c).toInt ≤ (m (34 + 11 * l + 4)).toInt := h.2.2.2.2.2.2.2.2.1
theorem PN.s0 {m : Mt} {l : Nat} {c : Int32} (h : PN m l c) : 0 ≤ (pSen m l c).toInt := h.2.2.2.2.2.2.2.2.2.1
theorem PN.s1 {m : Mt} {l : Nat} {c : Int32} (h : PN m l c) : (pSen m l c).toInt ≤ (pr m (nI l) 0).toInt := h.2.2.2.2.2.2.2.2.2.2.1
theorem PN.s2 {m : Mt} {l : Nat} {c : Int32} (h : PN m l c) : (pSen m l c).toInt ≤ (pPri m l c).toInt := h.2.2.2.2.2.2.2.2.2.2.2.1
theorem PN.j0 {m : Mt} {l : Nat} {c : Int32} (h : PN m l c) : (pJun m l c).toInt = (pPri m l c).toInt - (pSen m l c).toInt := h.2.2.2.2.2.2.2.2.2.2.2.2.1
theorem PN.j1 {m : Mt} {l : Nat} {c : Int32} (h : PN m l c) : (pJun m l c).toInt ≤ (pr m (nI l) 1).toInt := h.2.2.2.2.2.2.2.2.2.2.2.2.2
theorem pn {K : Int} {m : Mt} {l : Nat} {c : Int32} (h : InvM K m) (hl : l < nb m) (hc : 0 ≤ c.toInt ∧ c.toInt ≤ 199999) (ho : pOk m l c) : PN m l c := by
  obtain ⟨a1, a2, a3, a4, a5, a6⟩ := int_b h hl hc
  obtain ⟨f1, f2, f3, f4, f5⟩ := fee_b (m := m) (l := l) hc
  obtain ⟨b1, b2, b3, b4⟩ := pool_b h hl hc
  have k := h.2.2.2.2.2.1 l hl
  have kP := k.2.2.2.2.1
  have kD : 0 ≤ (m (34 + 11 * l + 6)).toInt ∧ (m (34 + 11 * l + 6)).toInt ≤ 1200000 := by
    have := k.2.2.2.2.2.2.1
    have := h.2.1
    omega
  have hrest := ho.2
  rw [tle, tadd (by omega) (by omega)] at hrest
  have r0 := pr_b h.1 h.pb (nI l) 0
  have r1 := pr_b h.1 h.pb (nI l) 1
  have rs := (pr_si h (nI l)).1
  rw [pr2 h.kin, tadd (by omega) (by omega), (h.2.2.2.2.2.2.2.1 l hl).1 ho.1] at rs
  have ms : (pSen m l c).toInt ≤ (pr m (nI l) 0).toInt ∧ (pSen m l c).toInt ≤ (pPri m l c).toInt ∧ ((pSen m l c).toInt = (pr m (nI l) 0).toInt ∨ (pSen m l c).toInt = (pPri m l c).toInt) := mn_b
  have ej : (pJun m l c).toInt = (pPri m l c).toInt - (pSen m l c).toInt := by
    unfold pJun
    rw [tsub] <;> omega
  exact ⟨a1, a2, a3, b2, b3, by rw [tsub] <;> omega, by omega, by omega, by omega, by omega, ms.1, ms.2.1, ej, by omega⟩
theorem g_b {K : Int} {m : Mt} {l : Nat} {c : Int32} (h : InvM K m) (q : PN m l c) {n : Nat} (hn : n < 60) : (0 ≤ (gI m l c n).toInt ∧ (gI m l c n).toInt ≤ 200000) ∧ (0 ≤ (g0 m l c n).toInt ∧ (g0 m l c n).toInt ≤ 200000) ∧ (0 ≤ (g1 m l c n).toInt ∧ (g1 m l c n).toInt ≤ 200000) ∧ (gi m l c n + gp m l c n).toInt = (gI m l c n).toInt + (g0 m l c n).toInt + (g1 m l c n).toInt ∧ gi m l c n = gI m l c n ∧ gp m l c n = g0 m l c n + g1 m l c n := by
  obtain ⟨i0, i1, i2, q0, q1, d, p0, p1, p2, s0, s1, s2, j0, j1⟩ := q
  have a := sh_b (n := n) (wt_ok h.pb (nI l) 2) (c := pInt m l c - pPool m l c) (by omega) hn
  have b := sh_b (n := n) (wt_ok h.pb (nI l) 0) (c := pSen m l c) (by omega) hn
  have e := sh_b (n := n) (wt_ok h.pb (nI l) 1) (c := pJun m l c) (by omega) hn
  have e1 : gi m l c n = gI m l c n := Int32.zero_add _
  have e2 : gp m l c n = g0 m l c n + g1 m l c n := by show (0 : Int32) + g0 m l c n + g1 m l c n = _; rw [Int32.zero_add]
  have a' : 0 ≤ (gI m l c n).toInt ∧ (gI m l c n).toInt ≤ 200000 := by
    unfold gI; omega
  have b' : 0 ≤ (g0 m l c n).toInt ∧ (g0 m l c n).toInt ≤ 200000 := by
    unfold g0; omega
  have e' : 0 ≤ (g1 m l c n).toInt ∧ (g1 m l c n).toInt ≤ 200000 := by
    unfold g1; omega
  have t1 : (g0 m l c n + g1 m l c n).toInt = (g0 m l c n).toInt + (g1 m l c n).toInt := tadd (by omega) (by omega)
  refine ⟨a', b', e', ?_, e1, e2⟩
  rw [e1, e2, tadd] <;> rw [t1] <;> omega
/-- what a note gets of principal -/
theorem gp_b {K : Int} {m : Mt} {l : Nat} {c : Int32} (h : InvM K m) (q : PN m l c) {n : Nat} (hn : n < nc m) : 0 ≤ (gp m l c n).toInt ∧ (gp m l c n).toInt ≤ (m (144 + 7 * n + 3)).toInt ∧ (gp m l c n).toInt = (g0 m l c n).toInt + (g1 m l c n).toInt ∧ (¬ m (144 + 7 * n + 1) = nI l → gp m l c n = 0) ∧ (m (144 + 7 * n + 2) = 1 → g0 m l c n = 0) := by
  have hn60 : n < 60 := by have := h.1.c.2; omega
  obtain ⟨u1, u2, u3, u4, u5, u6⟩ := g_b h q hn60
  have b := sh_b (n := n) (wt_ok h.pb (nI l) 0) (c := pSen m l c) (by have := q.s0; have := q.s2; have := q.p1; omega) hn60
  have e := sh_b (n := n) (wt_ok h.pb (nI l) 1) (c := pJun m l c) (by have := q.j0; have := q.s0; have := q.s2; have := q.p1; omega) hn60
  have b4 := b.2.2.2 (by rw [← pr_tot h.1 h.pb]; exact q.s1)
  have e4 := e.2.2.2 (by rw [← pr_tot h.1 h.pb]; exact q.j1)
  have pz := h.pb n hn
  have z01 : ¬ (0 : Int32) = 1 := by decide
  have z10 : ¬ (1 : Int32) = 0 := by decide
  have z02 : ¬ (0 : Int32) = 2 := by decide
  have z12 : ¬ (1 : Int32) = 2 := by decide
  have e1 : (gp m l c n).toInt = (g0 m l c n).toInt + (g1 m l c n).toInt := by rw [u6]; exact tadd (by omega) (by omega)
  have w0 : m (144 + 7 * n + 2) = 1 → wt m (nI l) 0 n = 0 := fun z => if_neg fun y => y.2.2.elim z02 fun y => by rw [z] at y; exact z10 y
  have w1 : m (144 + 7 * n + 2) = 0 → wt m (nI l) 1 n = 0 := fun z => if_neg fun y => y.2.2.elim z12 fun y => by rw [z] at y; exact z01 y
  have wl : ∀ s, ¬ m (144 + 7 * n + 1) = nI l → wt m (nI l) s n = 0 := fun s z => if_neg fun y => z y.2.1
  have wle : ∀ s, (wt m (nI l) s n).toInt ≤ (m (144 + 7 * n + 3)).toInt := fun s => by
    unfold wt
    by_cases d : n < nc m ∧ m (144 + 7 * n + 1) = nI l ∧ (s = 2 ∨ m (144 + 7 * n + 2) = s)
    · rw [if_pos d]; exact Int.le_refl _
    · rw [if_neg d]; exact pz.1
  have g0z : m (144 + 7 * n + 2) = 1 → g0 m l c n = 0 := fun z => b.2.2.1 (w0 z)
  refine ⟨by omega, ?_, e1, fun z => ?_, g0z⟩
  · rcases h.kin n hn with k | k
    · have : g1 m l c n = 0 := e.2.2.1 (w1 k)
      rw [e1, this, show (0 : Int32).toInt = 0 from rfl]
      have := wle 0
      have : (g0 m l c n).toInt ≤ (wt m (nI l) 0 n).toInt := b4
      omega
    · rw [e1, g0z k, show (0 : Int32).toInt = 0 from rfl]
      have := wle 1
      have : (g1 m l c n).toInt ≤ (wt m (nI l) 1 n).toInt := e4
      omega
  · have y0 : g0 m l c n = 0 := b.2.2.1 (wl 0 z)
    have y1 : g1 m l c n = 0 := e.2.2.1 (wl 1 z)
    rw [u6, y0, y1]
    rfl
theorem gp_sum {K : Int} {m : Mt} {l : Nat} {c : Int32} (h : InvM K m) (q : PN m l c) : si (tI (gp m l c)) (nc m) = (pPri m l c).toInt := by
  have hn := h.1.c.2
  have a := sh_sum (wt_ok h.pb (nI l) 0) (c := pSen m l c) (by have := q.s0; have := q.s2; have := q.p1; omega) (by rw [← pr_tot h.1 h.pb]; exact q.s1)
  have b := sh_sum (wt_ok h.pb (nI l) 1) (c := pJun m l c) (by have := q.j0; have := q.s0; have := q.s2; have := q.p1; omega) (by rw [← pr_tot h.1 h.pb]; exact q.j1)
  have z : ∀ s (x : Int32), 0 ≤ x.toInt ∧ x.toInt ≤ 1000000000 → ∀ n, nc m ≤ n → n < 60 → tI (sh x (wt m (nI l) s)) n = 0 := fun s x hx n h1 h2 => by
    show (sh x (wt m (nI l) s) n).toInt = 0
    rw [(sh_b (wt_ok h.pb (nI l) s) hx h2).2.2.1 (wt_out h1)]
    rfl
  rw [si_ext hn (z 0 _ (by have := q.s0; have := q.s2; have := q.p1; omega))] at a
  rw [si_ext hn (z 1 _ (by have := q.j0; have := q.s0; have := q.s2; have := q.p1; omega))] at b
  have e : si (tI (gp m l c)) (nc m) = si (fun n => tI (sh (pSen m l c) (wt m (nI l) 0)) n + tI (sh (pJun m l c) (wt m (nI l) 1)) n) (nc m) := si_congr fun n hn' => (gp_b h q hn').2.2.1
  rw [e, si_add, a, b, q.j0]
  omega
/-- the market after a payment -/
def pyB (m : Mt) (l : Nat) (c : Int32) : Mt := upd (upd (coJ m (gi m l c) (gp m l c) (nc m)) (6 + svc m l) (m (6 + svc m l) + pFee m l c)) 4 (m 4 + pPool m l c)
def pyM (m : Mt) (l : Nat) (c : Int32) : Mt := tkM (pyB m l c) l (pInt m l c) (pPri m l c)
theorem pyB_out {m : Mt} {l : Nat} {c : Int32} {k : Nat} (hs : svc m l < 4) (h : ¬ (6 ≤ k ∧ k < 10)) (h4 : k ≠ 4) : pyB m l c k = coJ m (gi m l c) (gp m l c) (nc m) k := by
  unfold pyB
  rw [upd_ne h4, upd_ne (by omega)]
theorem pyB_l {m : Mt} {l l' w : Nat} {c : Int32} (hs : svc m l < 4) (hl : l' < 10) (hw : w < 11) : pyB m l c (34 + 11 * l' + w) = m (34 + 11 * l' + w) := by
  rw [pyB_out hs (by omega) (by omega), coJ_out (by omega) (by omega)]
theorem tk_lok {E : Mt} {l : Nat} {i p : Int32} (h : LoK E (34 + 11 * l)) (hr : E (34 + 11 * l + 3) = 1) (h0 : 0 ≤ (E 0).toInt) (h6 : 0 ≤ (E (34 + 11 * l + 6) - i).toInt ∧ (E (34 + 11 * l + 6) - i).toInt ≤ (E (34 + 11 * l + 6)).toInt) (h4 : 0 ≤ (E (34 + 11 * l + 4) - p).toInt ∧ (E (34 + 11 * l + 4) - p).toInt ≤ (E (34 + 11 * l + 4)).toInt) (h7 : 0 ≤ (b7 E l p).toInt ∧ (b7 E l p).toInt ≤ (E (34 + 11 * l + 4) - p).toInt) : LoK (tkM E l i p) (34 + 11 * l) := by
  obtain ⟨u6, u4, u7, u8, u⟩ := tkB_v (E := E) (l := l) (i := i) (p := p)
  have hB : LoK (tkB E l i p) (34 + 11 * l) := by
    obtain ⟨a1, a2, a3, a4, a5, a6, a7, a8, a9, a10, a11, a12⟩ := h
    unfold LoK
    rw [u6, u4, u7, u8, u 0 (by omega) (by omega) (by omega) (by omega), u (34 + 11 * l) (by omega) (by omega) (by omega) (by omega), u (34 + 11 * l + 1) (by omega) (by omega) (by omega) (by omega), u (34 + 11 * l + 2) (by omega) (by omega) (by omega) (by omega), u (34 + 11 * l + 3) (by omega) (by omega) (by omega) (by omega), u (34 + 11 * l + 5) (by omega) (by omega) (by omega) (by omega), u (34 + 11 * l + 9) (by omega) (by omega) (by omega) (by omega), u (34 + 11 * l + 10) (by omega) (by omega) (by omega) (by omega)]
    refine ⟨a1, a2, a3, a4, by omega, a6, by omega, by omega, ?_, a10, a11, fun z => absurd hr z⟩
    by_cases d : E (34 + 11 * l + 6) - i = 0 ∧ b7 E l p = 0
    · rw [if_pos d]; exact ⟨by decide, h0⟩
    · rw [if_neg d]; exact a9
  unfold tkM
  by_cases d : E (34 + 11 * l + 6) - i = 0 ∧ E (34 + 11 * l + 4) - p = 0
  · rw [if_pos d]
    exact endM_lok (m0 := E) hB (by rw [u 0 (by omega) (by omega) (by omega) (by omega)]; exact h0) (by decide) (by decide)
  · rw [if_neg d]; exact hB
theorem tkM_3 {E : Mt} {l : Nat} {i p : Int32} : (tkM E l i p (34 + 11 * l + 3) = 2) ∨ (tkM E l i p (34 + 11 * l + 3) = E (34 + 11 * l + 3)) := by
  unfold tkM
  by_cases d : E (34 + 11 * l + 6) - i = 0 ∧ E (34 + 11 * l + 4) - p = 0
  · rw [if_pos d]; exact Or.inl endM_in.1
  · rw [if_neg d]; exact Or.inr (tkB_v.2.2.2.2 _ (by omega) (by omega) (by omega) (by omega))
theorem b7_b {E : Mt} {l : Nat} {p : Int32} (hp : 0 ≤ p.toInt) (h7 : 0 ≤ (E (34 + 11 * l + 7)).toInt ∧ (E (34 + 11 * l + 7)).toInt ≤ (E (34 + 11 * l + 4)).toInt) (h4 : (E (34 + 11 * l + 4) - p).toInt = (E (34 + 11 * l + 4)).toInt - p.toInt) (hle : p.toInt ≤ (E (34 + 11 * l + 4)).toInt) : 0 ≤ (b7 E l p).toInt ∧ (b7 E l p).toInt ≤ (E (34 + 11 * l + 4) - p).toInt := by
  unfold b7
  by_cases c : E (34 + 11 * l + 7) ≤ p
  · rw [if_pos c, h4, show (0 : Int32).toInt = 0 from rfl]; omega
  · rw [if_neg c]
    rw [tle] at c
    have := thi (E (34 + 11 * l + 7))
    rw [h4, tsub] <;> omega
theorem InvM_py {K : Int} {m : Mt} {l : Nat} {c : Int32} (h : InvM K m) (hK : K ≤ 2000000000) (hl : l < nb m) (hr : m (34 + 11 * l + 3) = 1) (q : PN m l c) (hf : Fit m (fun n => gi m l c n + gp m l c n)) : InvM (K + 200000) (pyM m l c) := by
  have hc := h.1
  have hb := hc.b.2
  have hn := hc.c.2
  obtain ⟨sv1, sv2⟩ := svc_eq h hl
  have k := h.2.2.2.2.2.1 l hl
  have bl : ∀ w, w < 11 → pyB m l c (34 + 11 * l + w) = m (34 + 11 * l + w) := fun w hw => pyB_l sv2 (by omega) hw
  have b0' : pyB m l c 0 = m 0 := by rw [pyB_out sv2 (by omega) (by omega), coJ_out (by omega) (by omega)]
  have lo : ∀ k', k' < 6 → k' ≠ 4 → pyM m l c k' = m k' := fun k' h1 h2 => by
    unfold pyM
    rw [tkM_out (by omega), pyB_out sv2 (by omega) h2, coJ_out (by omega) (by omega)]
  have hi : ∀ k', 144 ≤ k' → pyM m l c k' = coJ m (gi m l c) (gp m l c) (nc m) k' := fun k' h1 => by
    unfold pyM
    rw [tkM_out (by omega), pyB_out sv2 (by omega) (by omega)]
  have ca : ∀ k', 10 ≤ k' → k' < 34 → pyM m l c k' = coJ m (gi m l c) (gp m l c) (nc m) k' := fun k' h1 h2 => by
    unfold pyM
    rw [tkM_out (by omega), pyB_out sv2 (by omega) (by omega)]
  have e4 : pyM m l c 4 = m 4 + pPool m l c := by
    unfold pyM pyB
    rw [tkM_out (by omega), upd_eq]
  have hg : ∀ n, n < nc m → 0 ≤ (gi m l c n + gp m l c n).toInt ∧ (gi m l c n + gp m l c n).toInt ≤ 2000000 := fun n hn' => by
    obtain ⟨u1, u2, u3, u4, -⟩ := g_b h q (n := n) (by omega)
    omega
  have p4 := h.2.2.2.1
  have x6 : (m (34 + 11 * l + 6) - pInt m l c).toInt = (m (34 + 11 * l + 6)).toInt - (pInt m l c).toInt := by
    have := q.i0; have := q.i2; have := thi (m (34 + 11 * l + 6))
    rw [tsub] <;> omega
  have x4 : (m (34 + 11 * l + 4) - pPri m l c).toInt = (m (34 + 11 * l + 4)).toInt - (pPri m l c).toInt := by
    have := q.p0; have := q.p2; have := thi (m (34 + 11 * l + 4))
    rw [tsub] <;> omega
  have y6 := bl 6 (by omega)
  have y4 := bl 4 (by omega)
  have y7 := bl 7 (by omega)
  have y3 := bl 3 (by omega)
  have z7 := b7_b (E := pyB m l c) (l := l) (p := pPri m l c) q.p0 (by rw [y7, y4]; exact k.2.2.2.2.2.2.2.1) (by rw [y4]; exact x4) (by rw [y4]; exact q.p2)
  have hP : ∀ n, n < nc m → (pyM m l c (144 + 7 * n + 3)).toInt = (m (144 + 7 * n + 3)).toInt - (gp m l c n).toInt := fun n hn' => by
    obtain ⟨v1, v2, v3, v4, v5⟩ := gp_b h q hn'
    have := h.pb n hn'
    rw [hi _ (by omega), coJ_n3 hn', tsub] <;> omega
  refine InvM_pay h hl (lo 0 (by omega) (by omega)) (lo 1 (by omega) (by omega)) (lo 2 (by omega) (by omega)) (lo 3 (by omega) (by omega)) (lo 5 (by omega) (by omega)) ?_ (fun i hi' => ?_) (fun i h1 h2 => ?_) (fun l' h1 h2 w hw' => ?_) ?_ (fun n hn' w hw' => by rw [hi _ (by omega), coJ_nx (by omega) (by omega) (by omega)]) (fun n hn' => ?_) (fun n hn' hne => ?_) (fun _ n hn' he => ?_) ?_
  · have := q.q0; have := q.q1; have := q.i1
    rw [e4, tadd] <;> omega
  · rw [ca _ (by omega) (by omega)]
    exact cash_fit hc h.hd h.2.2.2.2.1 hg hf i hi'
  · have d := h.2.2.2.2.2.2.2.2 i h1 h2
    rw [ca _ (by omega) (by omega), ca _ (by omega) (by omega), coJ_i h2, coJ_l h2, d.1, d.2, (sG_dead hc h.hd h1 h2 (nc m) (Nat.le_refl _)).1]
    exact ⟨rfl, rfl⟩
  · unfold pyM
    rw [tkM_out (by omega), pyB_l sv2 h1 hw']
  · unfold pyM
    refine tk_lok ((h.2.2.2.2.2.1 l hl).congr b0' bl) (by rw [y3]; exact hr) (by rw [b0']; exact h.2.1.1) ?_ ?_ z7
    · have := q.i0; have := q.i2
      rw [y6, x6]; omega
    · have := q.p0; have := q.p2
      rw [y4, x4]; omega
  · obtain ⟨v1, v2, v3, v4, v5⟩ := gp_b h q hn'
    have := h.pb n hn'
    rw [hP n hn']
    omega
  · obtain ⟨v1, v2, v3, v4, v5⟩ := gp_b h q hn'
    rw [hi _ (by omega), hi _ (by omega), coJ_n3 hn', v4 hne, Int32.sub_zero, coJ_nx (by omega) (by omega) (by omega)]
    exact ⟨rfl, rfl⟩
  · rw [hi _ (by omega), coJ_nx (by omega) (by omega) (by omega)]
    refine (h.2.2.2.2.2.2.1 n hn').2.2.2.2 ?_
    rw [he, nI_clamp (by omega), hr]
    decide
  · have e3 : pyM m l c 3 = m 3 := lo 3 (by omega) (by omega)
    have es : siN (pyM m l c) (nI l) = siN m (nI l) - (pPri m l c).toInt := by
      rw [← gp_sum h q]
      unfold siN nc
      rw [e3]
      have e : si (fun n => if m (144 + 7 * n + 1) = nI l then (m (144 + 7 * n + 3)).toInt else 0) (m 3).toNatClampNeg = si (fun n => (if pyM m l c (144 + 7 * n + 1) = nI l then (pyM m l c (144 + 7 * n + 3)).toInt else 0) + tI (gp m l c) n) (m 3).toNatClampNeg := si_congr fun n hn' => by
        have hn2 : n < nc m := hn'
        obtain ⟨v1, v2, v3, v4, v5⟩ := gp_b h q hn2
        rw [hP n hn2, hi _ (by omega), coJ_nx (by omega) (by omega) (by omega)]
        show _ = _ + (gp m l c n).toInt
        by_cases d : m (144 + 7 * n + 1) = nI l
        · rw [if_pos d, if_pos d]; omega
        · rw [if_neg d, if_neg d, v4 d]; rfl
      rw [e, si_add]
      omega
    have sm := (h.2.2.2.2.2.2.2.1 l hl).1 hr
    unfold SmK
    rw [es, sm]
    have t3 := tkM_3 (E := pyB m l c) (l := l) (i := pInt m l c) (p := pPri m l c)
    rw [y3, hr] at t3
    have t4 := tkM_4 (E := pyB m l c) (l := l) (i := pInt m l c) (p := pPri m l c)
    rw [y4] at t4
    refine ⟨fun _ => ?_, fun z => ?_⟩
    · show _ = (tkM (pyB m l c) l (pInt m l c) (pPri m l c) (34 + 11 * l + 4)).toInt
      rw [t4, x4]
    · exfalso
      have z' : tkM (pyB m l c) l (pInt m l c) (pPri m l c) (34 + 11 * l + 3) = 0 := z
      rcases t3 with t | t <;> (rw [z'] at t; exact absurd t (by decide))
