/-! sell: the numbers -/
def sA0 (m : Mt) (l : Nat) (c : Int32) : Int32 := mn (pr m (nI l) 0) c
def sA1 (m : Mt) (l : Nat) (c : Int32) : Int32 := mn (pr m (nI l) 1) (c - sA0 m l c)
def sQ (m : Mt) (l : Nat) (c : Int32) : Int32 := m 4 + ((c - sA0 m l c) - sA1 m l c)
def h0 (m : Mt) (l : Nat) (c : Int32) : Gf := sh (sA0 m l c) (wt m (nI l) 0)
def h1 (m : Mt) (l : Nat) (c : Int32) : Gf := sh (sA1 m l c) (wt m (nI l) 1)
def sE (m : Mt) (l : Nat) (c : Int32) : Mt := coJ (coJ m nil (h0 m l c) (nc m)) nil (h1 m l c) (nc m)
def wq (m : Mt) (l : Nat) (c : Int32) : Gf := wt (sE m l c) (nI l) 0
def sA2 (m : Mt) (l : Nat) (c : Int32) : Int32 := mn (pr (sE m l c) (nI l) 0) (sQ m l c)
def h2 (m : Mt) (l : Nat) (c : Int32) : Gf := sh (sA2 m l c) (wq m l c)
def hp (m : Mt) (l : Nat) (c : Int32) : Gf := fun n => nil n + h0 m l c n + h1 m l c n + h2 m l c n
theorem sA_b {K : Int} {m : Mt} {l : Nat} {c : Int32} (h : InvM K m) (hc : 0 ≤ c.toInt ∧ c.toInt ≤ 99999) : (0 ≤ (sA0 m l c).toInt ∧ (sA0 m l c).toInt ≤ (pr m (nI l) 0).toInt ∧ (sA0 m l c).toInt ≤ 99999) ∧ (c - sA0 m l c).toInt = c.toInt - (sA0 m l c).toInt ∧ (0 ≤ (sA1 m l c).toInt ∧ (sA1 m l c).toInt ≤ (pr m (nI l) 1).toInt ∧ (sA1 m l c).toInt ≤ 99999) ∧ ((c - sA0 m l c) - sA1 m l c).toInt = c.toInt - (sA0 m l c).toInt - (sA1 m l c).toInt ∧ 0 ≤ ((c - sA0 m l c) - sA1 m l c).toInt := by
  have r0 := pr_b h.1 h.pb (nI l) 0
  have r1 := pr_b h.1 h.pb (nI l) 1
  have a0 : (sA0 m l c).toInt ≤ (pr m (nI l) 0).toInt ∧ (sA0 m l c).toInt ≤ c.toInt ∧ ((sA0 m l c).toInt = (pr m (nI l) 0).toInt ∨ (sA0 m l c).toInt = c.toInt) := mn_b
  have e0 : (c - sA0 m l c).toInt = c.toInt - (sA0 m l c).toInt := by rw [tsub] <;> omega
  have a1 : (sA1 m l c).toInt ≤ (pr m (nI l) 1).toInt ∧ (sA1 m l c).toInt ≤ (c - sA0 m l c).toInt ∧ ((sA1 m l c).toInt = (pr m (nI l) 1).toInt ∨ (sA1 m l c).toInt = (c - sA0 m l c).toInt) := mn_b
  have e1 : ((c - sA0 m l c) - sA1 m l c).toInt = c.toInt - (sA0 m l c).toInt - (sA1 m l c).toInt := by rw [tsub] <;> rw [e0] <;> omega
  omega
theorem hh_b {K : Int} {m : Mt} {l : Nat} {c : Int32} (h : InvM K m) (hc : 0 ≤ c.toInt ∧ c.toInt ≤ 99999) {n : Nat} (hn : n < 60) : (0 ≤ (h0 m l c n).toInt ∧ (h0 m l c n).toInt ≤ (wt m (nI l) 0 n).toInt ∧ (wt m (nI l) 0 n = 0 → h0 m l c n = 0)) ∧ (0 ≤ (h1 m l c n).toInt ∧ (h1 m l c n).toInt ≤ (wt m (nI l) 1 n).toInt ∧ (wt m (nI l) 1 n = 0 → h1 m l c n = 0)) := by
  obtain ⟨a, b, e, f, g⟩ := sA_b (l := l) h hc
  have x := sh_b (n := n) (wt_ok h.pb (nI l) 0) (c := sA0 m l c) (by omega) hn
  have y := sh_b (n := n) (wt_ok h.pb (nI l) 1) (c := sA1 m l c) (by omega) hn
  exact ⟨⟨x.1, x.2.2.2 (by rw [← pr_tot h.1 h.pb]; exact a.2.1), x.2.2.1⟩, ⟨y.1, y.2.2.2 (by rw [← pr_tot h.1 h.pb]; exact e.2.1), y.2.2.1⟩⟩
/-- the two classes apart -/
theorem wt_01 {K : Int} {m : Mt} (h : InvM K m) (l : Int32) {n : Nat} (hn : n < nc m) : (m (144 + 7 * n + 1) = l ∧ m (144 + 7 * n + 2) = 0 ∧ wt m l 0 n = m (144 + 7 * n + 3) ∧ wt m l 1 n = 0) ∨ (m (144 + 7 * n + 1) = l ∧ m (144 + 7 * n + 2) = 1 ∧ wt m l 1 n = m (144 + 7 * n + 3) ∧ wt m l 0 n = 0) ∨ (¬ m (144 + 7 * n + 1) = l ∧ wt m l 0 n = 0 ∧ wt m l 1 n = 0) := by
  have z01 : ¬ (0 : Int32) = 1 := by decide
  have z10 : ¬ (1 : Int32) = 0 := by decide
  have z02 : ¬ (0 : Int32) = 2 := by decide
  have z12 : ¬ (1 : Int32) = 2 := by decide
  by_cases d : m (144 + 7 * n + 1) = l
  · rcases h.kin n hn with k | k
    · exact Or.inl ⟨d, k, if_pos ⟨hn, d, Or.inr k⟩, if_neg fun y => y.2.2.elim z12 fun y => by rw [k] at y; exact z01 y⟩
    · exact Or.inr (Or.inl ⟨d, k, if_pos ⟨hn, d, Or.inr k⟩, if_neg fun y => y.2.2.elim z02 fun y => by rw [k] at y; exact z10 y⟩)
  · exact Or.inr (Or.inr ⟨d, if_neg fun y => d y.2.1, if_neg fun y => d y.2.1⟩)
theorem sE_n {m : Mt} {l : Nat} {c : Int32} : nc (sE m l c) = nc m := by unfold sE nc; rw [coJ_123.2.2, coJ_123.2.2]
theorem sE_3 {m : Mt} {l : Nat} {c : Int32} {n : Nat} (hn : n < nc m) : sE m l c (144 + 7 * n + 3) = m (144 + 7 * n + 3) - h0 m l c n - h1 m l c n := by unfold sE; rw [coJ_n3 hn, coJ_n3 hn]
theorem sE_x {m : Mt} {l : Nat} {c : Int32} {n w : Nat} (hw : w < 7) (h3 : w ≠ 3) (h5 : w ≠ 5) : sE m l c (144 + 7 * n + w) = m (144 + 7 * n + w) := by unfold sE; rw [coJ_nx hw h3 h5, coJ_nx hw h3 h5]
theorem sE_cnt {m : Mt} {l : Nat} {c : Int32} (hc : Cnt m) : Cnt (sE m l c) := coJ_cnt (coJ_cnt hc)
theorem sE_v {K : Int} {m : Mt} {l : Nat} {c : Int32} (h : InvM K m) (hc : 0 ≤ c.toInt ∧ c.toInt ≤ 99999) {n : Nat} (hn : n < nc m) : (sE m l c (144 + 7 * n + 3)).toInt = (m (144 + 7 * n + 3)).toInt - (h0 m l c n).toInt - (h1 m l c n).toInt ∧ 0 ≤ (sE m l c (144 + 7 * n + 3)).toInt ∧ (sE m l c (144 + 7 * n + 3)).toInt ≤ 99999 := by
  have hn60 : n < 60 := by have := h.1.c.2; omega
  obtain ⟨⟨a1, a2, a3⟩, ⟨b1, b2, b3⟩⟩ := hh_b (l := l) h hc hn60
  have z0 : (0 : Int32).toInt = 0 := rfl
  have p := h.pb n hn
  have : (h0 m l c n).toInt + (h1 m l c n).toInt ≤ (m (144 + 7 * n + 3)).toInt := by
    rcases wt_01 h (nI l) hn with ⟨-, -, e1, e2⟩ | ⟨-, -, e1, e2⟩ | ⟨-, e1, e2⟩
    · rw [e1] at a2; rw [e2, z0] at b2; omega
    · rw [e1] at b2; rw [e2, z0] at a2; omega
    · rw [e1, z0] at a2; rw [e2, z0] at b2; omega
  rw [sE_3 hn, tsub] <;> rw [tsub] <;> omega
theorem sE_pb {K : Int} {m : Mt} {l : Nat} {c : Int32} (h : InvM K m) (hc : 0 ≤ c.toInt ∧ c.toInt ≤ 99999) : Pb (sE m l c) := fun n hn => by
  rw [sE_n] at hn
  exact (sE_v h hc hn).2
theorem wq_i {K : Int} {m : Mt} {l : Nat} {c : Int32} (h : InvM K m) (hc : 0 ≤ c.toInt ∧ c.toInt ≤ 99999) {n : Nat} (hn : n < 60) : (wq m l c n).toInt + (h0 m l c n).toInt = (wt m (nI l) 0 n).toInt ∧ jmax 0 (wt m (nI l) 0 n - (nil n + h0 m l c n + h1 m l c n)) = wq m l c n := by
  have z0 : (0 : Int32).toInt = 0 := rfl
  have z10 : ¬ (1 : Int32) = 0 := by decide
  have z02 : ¬ (0 : Int32) = 2 := by decide
  obtain ⟨⟨a1, a2, a3⟩, ⟨b1, b2, b3⟩⟩ := hh_b (l := l) h hc hn
  have en : nil n + h0 m l c n + h1 m l c n = h0 m l c n + h1 m l c n := by show (0 : Int32) + h0 m l c n + h1 m l c n = _; rw [Int32.zero_add]
  rw [en]
  have zero : wq m l c n = 0 → wt m (nI l) 0 n = 0 → (wq m l c n).toInt + (h0 m l c n).toInt = (wt m (nI l) 0 n).toInt ∧ jmax 0 (wt m (nI l) 0 n - (h0 m l c n + h1 m l c n)) = wq m l c n := fun e1 e2 => by
    rw [e1, e2, a3 e2, Int32.zero_add, Int32.zero_sub]
    refine ⟨rfl, ?_⟩
    unfold jmax
    rw [if_neg]
    rw [tlt, tneg (by omega), z0]
    omega
  by_cases hn' : n < nc m
  · rcases wt_01 h (nI l) hn' with ⟨d, k, e1, e2⟩ | ⟨d, k, e1, e2⟩ | ⟨d, e1, e2⟩
    · have ew : wq m l c n = sE m l c (144 + 7 * n + 3) := if_pos ⟨by rw [sE_n]; exact hn', by rw [sE_x (by omega) (by omega) (by omega)]; exact d, Or.inr (by rw [sE_x (by omega) (by omega) (by omega)]; exact k)⟩
      have v := sE_v (l := l) h hc hn'
      rw [ew, e1, sE_3 hn', b3 e2]
      rw [sE_3 hn', b3 e2, z0] at v
      rw [Int32.sub_zero] at v ⊢
      rw [Int32.add_zero]
      refine ⟨by omega, ?_⟩
      unfold jmax
      by_cases g : 0 < m (144 + 7 * n + 3) - h0 m l c n
      · rw [if_pos g]
      · rw [if_neg g, teq, z0]
        rw [tlt, z0] at g
        omega
    · refine zero (if_neg fun y => y.2.2.elim z02 fun y => ?_) e2
      rw [sE_x (by omega) (by omega) (by omega), k] at y
      exact z10 y
    · refine zero (if_neg fun y => ?_) e1
      have := y.2.1
      rw [sE_x (by omega) (by omega) (by omega)] at this
      exact d this
  · exact zero (wt_out (by rw [sE_n]; omega)) (wt_out (by omega))
theorem prE {K : Int} {m : Mt} {l : Nat} {c : Int32} (h : InvM K m) (hc : 0 ≤ c.toInt ∧ c.toInt ≤ 99999) : pr (sE m l c) (nI l) 0 = pr m (nI l) 0 - sA0 m l c := by
  obtain ⟨a, b, e, f, g⟩ := sA_b (l := l) h hc
  have r0 := pr_b h.1 h.pb (nI l) 0
  have t1 := pr_tot (sE_cnt (l := l) (c := c) h.1) (sE_pb h hc) (nI l) 0
  have t2 := pr_tot h.1 h.pb (nI l) 0
  have t3 := sh_sum (wt_ok h.pb (nI l) 0) (c := sA0 m l c) (by omega) (by rw [← t2]; exact a.2.1)
  have e1 : si (tI (wt m (nI l) 0)) 60 = si (fun n => tI (wq m l c) n + tI (h0 m l c) n) 60 := si_congr fun n hn => ((wq_i h hc hn).1).symm
  rw [si_add] at e1
  have e2 : si (tI (wq m l c)) 60 = si (tI (wt (sE m l c) (nI l) 0)) 60 := rfl
  have e3 : si (tI (h0 m l c)) 60 = (sA0 m l c).toInt := t3
  rw [teq, tsub] <;> omega
theorem sQ_b {K : Int} {m : Mt} {l : Nat} {c : Int32} (h : InvM K m) (hK : K ≤ 2000000000) (hc : 0 ≤ c.toInt ∧ c.toInt ≤ 99999) : (0 ≤ (sQ m l c).toInt ∧ (sQ m l c).toInt ≤ K + 99999) ∧ (0 ≤ (sA2 m l c).toInt ∧ (sA2 m l c).toInt ≤ (pr (sE m l c) (nI l) 0).toInt ∧ (sA2 m l c).toInt ≤ (sQ m l c).toInt) ∧ (sQ m l c - sA2 m l c).toInt = (sQ m l c).toInt - (sA2 m l c).toInt := by
  obtain ⟨a, b, e, f, g⟩ := sA_b (l := l) h hc
  have p4 := h.2.2.2.1
  have q : (sQ m l c).toInt = (m 4).toInt + ((c - sA0 m l c) - sA1 m l c).toInt := by
    unfold sQ
    rw [tadd] <;> omega
  have r := pr_b (sE_cnt (l := l) (c := c) h.1) (sE_pb h hc) (nI l) 0
  have x : (sA2 m l c).toInt ≤ (pr (sE m l c) (nI l) 0).toInt ∧ (sA2 m l c).toInt ≤ (sQ m l c).toInt ∧ ((sA2 m l c).toInt = (pr (sE m l c) (nI l) 0).toInt ∨ (sA2 m l c).toInt = (sQ m l c).toInt) := mn_b
  have y : (sQ m l c - sA2 m l c).toInt = (sQ m l c).toInt - (sA2 m l c).toInt := by rw [tsub] <;> omega
  omega
theorem h2_b {K : Int} {m : Mt} {l : Nat} {c : Int32} (h : InvM K m) (hK : K ≤ 2000000000) (hc : 0 ≤ c.toInt ∧ c.toInt ≤ 99999) {n : Nat} (hn : n < 60) : 0 ≤ (h2 m l c n).toInt ∧ (h2 m l c n).toInt ≤ (wq m l c n).toInt ∧ (wq m l c n = 0 → h2 m l c n = 0) := by
  obtain ⟨a, b, d⟩ := sQ_b (l := l) h hK hc
  have r := pr_b (sE_cnt (l := l) (c := c) h.1) (sE_pb h hc) (nI l) 0
  have x := sh_b (n := n) (wt_ok (sE_pb (l := l) h hc) (nI l) 0) (c := sA2 m l c) (by omega) hn
  exact ⟨x.1, x.2.2.2 (by rw [← pr_tot (sE_cnt h.1) (sE_pb h hc)]; exact b.2.1), x.2.2.1⟩
theorem jmn (a b : Int32) : jmin a b = mn b a := jm_eq a b
theorem ofSale_c {K : Int} {σ : Sto} {m : Mt} {l : Nat} {c : Int32} (h : InvM K m) (hK : K ≤ 2000000000) (hr : Cla σ 0 m) (hc : 0 ≤ c.toInt ∧ c.toInt ≤ 99999) : ∃ τ, dc_X8_ofSale 0 (nI l) c σ = some (sQ m l c - sA2 m l c, τ) ∧ FrW 288 σ τ ∧ PA τ nil (hp m l c) (wq m l c) := by
  have hcn := h.1
  obtain ⟨a, b, e, f, g⟩ := sA_b (l := l) h hc
  obtain ⟨qa, qb, qd⟩ := sQ_b (l := l) h hK hc
  have r := pr_b (sE_cnt (l := l) (c := c) h.1) (sE_pb h hc) (nI l) 0
  obtain ⟨σ1, a1, a2, a3⟩ := clear_c (σ := σ)
  have r1 := a2.cla hr
  obtain ⟨σ2, b1, b2, b3⟩ := byClass_c r1 hcn h.kin h.pb (nI l) (c0 := sA0 m l c) (c1 := sA1 m l c) (by omega) (by omega) a3 (fun _ _ => rfl)
  have r2 := b2.cla r1
  obtain ⟨σ3, d1, d2, d3⟩ := weigh_c r2 hcn h.kin (nI l) 0 (Or.inl rfl) b3 (fun n hn => wt_out hn)
  have d1' : dc_X8_weighPrincipals 0 (nI l) 1 0 σ2 = some σ3 := d1
  have e88 : σ2.1 88 0 0 = m 4 := r2.1.2.2.2.2.1
  unfold dc_X8_ofSale
  rw [a1, bv_s, xpr_eq r1 hcn _ 0 (by decide), bd_s, xpr_eq r1 hcn _ 1 (by decide), bd_s, jmn, jmn, show mn (pr m (nI l) 0) c = sA0 m l c from rfl, show mn (pr m (nI l) 1) (c - sA0 m l c) = sA1 m l c from rfl, b1, bv_s, d1', bv_s, e88]
  refine wh1_inv (T := fun o => ∃ τ, o = some (sQ m l c - sA2 m l c, τ) ∧ FrW 288 σ τ ∧ PA τ nil (hp m l c) (wq m l c)) (fun i τ => FrW 288 σ τ ∧ PA τ nil (fun n => nil n + h0 m l c n + h1 m l c n) (fun n => if n < i then wq m l c n else wt m (nI l) 0 n)) 60 (by decide) (fun i τ hi hP => ?_) (fun τ hP rec => ?_) ⟨⟨fun f hf => (d2.1 f hf).trans ((b2.1 f hf).trans (a2.1 f hf)), d2.2.trans (b2.2.trans a2.2)⟩, fun n hn => d3 n hn⟩
  · obtain ⟨p1, p2⟩ := hP
    refine ⟨up τ 288 2 i (wq m l c i), ⟨FrW_up p1, fun n hn => ?_⟩, fun rec => ?_⟩
    · obtain ⟨c1, c2, c3⟩ := p2 n hn
      refine ⟨(up_nj (by decide)).trans c1, (up_nj (by decide)).trans c2, ?_⟩
      show _ = if n < i + 1 then wq m l c n else wt m (nI l) 0 n
      by_cases e : n = i
      · rw [e, up_eq, if_pos (by omega)]
      · rw [up_nl e, c3]
        show (if n < i then wq m l c n else wt m (nI l) 0 n) = _
        by_cases e2 : n < i
        · rw [if_pos e2, if_pos (by omega)]
        · rw [if_neg e2, if_neg (by omega)]
    · have c2 := (p2 i hi).2.1
      have c3 : τ.1 288 2 i = wt m (nI l) 0 i := (p2 i hi).2.2.trans (if_neg (by omega))
      rw [if_neg (n60 hi), if_pos (inb_nI hi (by decide)), if_pos (inb_nI hi (by decide)), if_pos (inb_nI hi (by decide)), nI_clamp (by omega), c2, c3, (wq_i h hc hi).2, nI_1]
  · obtain ⟨p1, p2⟩ := hP
    have p2' : PA τ nil (fun n => nil n + h0 m l c n + h1 m l c n) (wq m l c) := fun n hn => ⟨(p2 n hn).1, (p2 n hn).2.1, (p2 n hn).2.2.trans (if_pos hn)⟩
    obtain ⟨υ, u1, u2, u3⟩ := shareP_c p2' (wt_ok (sE_pb h hc) (nI l) 0) (c := sA2 m l c) (by omega)
    rw [if_pos y60, jmn, ← prE h hc, show m 4 + (c - sA0 m l c - sA1 m l c) = sQ m l c from rfl, show mn (pr (sE m l c) (nI l) 0) (sQ m l c) = sA2 m l c from rfl, u1, bv_s]
    exact ⟨υ, rfl, ⟨fun f hf => (u2.1 f hf).trans (p1.1 f hf), u2.2.trans p1.2⟩, u3⟩
