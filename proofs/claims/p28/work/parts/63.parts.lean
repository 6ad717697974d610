/-! the parts of a payment -/
theorem b64 {x : Int} (h1 : -9223372036854775808 ≤ x) (h2 : x < 9223372036854775808) : x.bmod (2 ^ 64) = x := by
  have e : ((2 : Nat) ^ 64 : Nat) = 18446744073709551616 := rfl
  unfold Int.bmod
  simp only [e]
  omega
theorem mulb {x y : Int} (h1 : 0 ≤ x) (h2 : x < 2147483648) (h3 : 0 ≤ y) (h4 : y < 2147483648) : 0 ≤ x * y ∧ x * y < 4611686018427387905 := by
  refine ⟨Int.mul_nonneg h1 h3, ?_⟩
  have : x * y ≤ 2147483648 * 2147483648 := Int.mul_le_mul (by omega) (by omega) h3 (by omega)
  omega
/-- the share of a whole, reckoned long -/
theorem lmd {x y : Int32} {z : Int64} (hx : 0 ≤ x.toInt) (hy : 0 ≤ y.toInt) (hz : 0 < z.toInt) : (x.toInt64 * y.toInt64 / z).toInt = x.toInt * y.toInt / z.toInt := by
  have hb := mulb hx (thi x) hy (thi y)
  have e1 : (x.toInt64 * y.toInt64).toInt = x.toInt * y.toInt := by
    rw [Int64.toInt_mul, Int32.toInt_toInt64, Int32.toInt_toInt64]
    exact b64 (by omega) (by omega)
  rw [Int64.toInt_div, e1, Int.tdiv_eq_ediv_of_nonneg hb.1]
  have h3 : x.toInt * y.toInt / z.toInt ≤ x.toInt * y.toInt := Int.ediv_le_self _ hb.1
  have h4 : 0 ≤ x.toInt * y.toInt / z.toInt := Int.ediv_nonneg hb.1 (by omega)
  exact b64 (by omega) (by omega)
theorem lmd32 {x y : Int32} {z : Int64} (hx : 0 ≤ x.toInt) (hy : 0 ≤ y.toInt) (hz : 0 < z.toInt) (hq : x.toInt * y.toInt / z.toInt < 2147483648) : (x.toInt64 * y.toInt64 / z).toInt32.toInt = x.toInt * y.toInt / z.toInt := by
  have hb := mulb hx (thi x) hy (thi y)
  have h4 : 0 ≤ x.toInt * y.toInt / z.toInt := Int.ediv_nonneg hb.1 (by omega)
  rw [Int64.toInt_toInt32, lmd hx hy hz]
  exact bmod_in (by omega) hq
/-- the same reckoned short, if the product is small -/
theorem lmd_s {x y w : Int32} {z : Int64} (hx : 0 ≤ x.toInt) (hy : 0 ≤ y.toInt) (hw : w.toInt = z.toInt) (hz : 0 < z.toInt) (hp : x.toInt * y.toInt < 2147483648) : (x.toInt64 * y.toInt64 / z).toInt32 = x * y / w := by
  have hb := mulb hx (thi x) hy (thi y)
  have h3 : x.toInt * y.toInt / z.toInt ≤ x.toInt * y.toInt := Int.ediv_le_self _ hb.1
  have e := tmul (x := x) (y := y) (by omega) hp
  rw [teq, lmd32 hx hy hz (by omega), tdiv (by rw [e]; exact hb.1) (by rw [hw]; exact hz), e, hw]
def svc (m : Mt) (l : Nat) : Nat := (m (34 + 11 * l + 9)).toNatClampNeg
def pFee (m : Mt) (l : Nat) (c : Int32) : Int32 := c * feeI (svc m l) / 1000
def pRest (m : Mt) (l : Nat) (c : Int32) : Int32 := c - pFee m l c
def pInt (m : Mt) (l : Nat) (c : Int32) : Int32 := if m (34 + 11 * l + 6) ≤ pRest m l c then m (34 + 11 * l + 6) else pRest m l c
def pPool (m : Mt) (l : Nat) (c : Int32) : Int32 := pInt m l c * m 5 / 100
def pPri (m : Mt) (l : Nat) (c : Int32) : Int32 := pRest m l c - pInt m l c
def pSen (m : Mt) (l : Nat) (c : Int32) : Int32 := if pr m (nI l) 0 ≤ pPri m l c then pr m (nI l) 0 else pPri m l c
def pJun (m : Mt) (l : Nat) (c : Int32) : Int32 := pPri m l c - pSen m l c
abbrev pOk (m : Mt) (l : Nat) (c : Int32) : Prop := m (34 + 11 * l + 3) = 1 ∧ pRest m l c ≤ m (34 + 11 * l + 6) + m (34 + 11 * l + 4)
theorem jm_eq (a b : Int32) : jmin a b = if b ≤ a then b else a := by
  unfold jmin
  by_cases c : b < a
  · rw [if_pos c, if_pos (by rw [tle]; rw [tlt] at c; omega)]
  · rw [if_neg c]
    by_cases d : b ≤ a
    · rw [if_pos d, teq]
      rw [tle] at d; rw [tlt] at c; omega
    · rw [if_neg d]
theorem svc_eq {K : Int} {m : Mt} (h : InvM K m) {l : Nat} (hl : l < nb m) : m (34 + 11 * l + 9) = nI (svc m l) ∧ svc m l < 4 := by
  have q := (h.2.2.2.2.2.1 l hl).2.2.2.2.2.2.2.2.2.1
  have := clI q.1
  refine ⟨nIe q.1, ?_⟩
  unfold svc
  omega
theorem feeb (s : Nat) : 5 ≤ (feeI s).toInt ∧ (feeI s).toInt ≤ 40 := by
  unfold feeI
  split <;> decide
/-- the bounds of the parts -/
theorem fee_b {m : Mt} {l : Nat} {c : Int32} (hc : 0 ≤ c.toInt ∧ c.toInt ≤ 199999) : (pFee m l c).toInt = c.toInt * (feeI (svc m l)).toInt / 1000 ∧ 0 ≤ (pFee m l c).toInt ∧ (pFee m l c).toInt ≤ 7999 ∧ (pFee m l c).toInt ≤ c.toInt ∧ (pRest m l c).toInt = c.toInt - (pFee m l c).toInt := by
  have hf := feeb (svc m l)
  have h1 : c.toInt * (feeI (svc m l)).toInt ≤ c.toInt * 40 := Int.mul_le_mul_of_nonneg_left hf.2 hc.1
  have h0 : 0 ≤ c.toInt * (feeI (svc m l)).toInt := Int.mul_nonneg hc.1 (by omega)
  have e := tmul (x := c) (y := feeI (svc m l)) (by omega) (by omega)
  have e2 : (pFee m l c).toInt = c.toInt * (feeI (svc m l)).toInt / 1000 := by
    unfold pFee
    rw [tdiv (by rw [e]; exact h0) (by decide), e]
    rfl
  have e3 : (pRest m l c).toInt = c.toInt - (pFee m l c).toInt := by
    unfold pRest
    rw [tsub] <;> omega
  omega
theorem int_b {K : Int} {m : Mt} (h : InvM K m) {l : Nat} (hl : l < nb m) {c : Int32} (hc : 0 ≤ c.toInt ∧ c.toInt ≤ 199999) : 0 ≤ (pInt m l c).toInt ∧ (pInt m l c).toInt ≤ 199999 ∧ (pInt m l c).toInt ≤ (m (34 + 11 * l + 6)).toInt ∧ (pInt m l c).toInt ≤ (pRest m l c).toInt ∧ (pPri m l c).toInt = (pRest m l c).toInt - (pInt m l c).toInt ∧ ((pInt m l c).toInt = (m (34 + 11 * l + 6)).toInt ∨ (pPri m l c).toInt = 0) := by
  have q := (h.2.2.2.2.2.1 l hl).2.2.2.2.2.2.1
  obtain ⟨f1, f2, f3, f4, f5⟩ := fee_b (m := m) (l := l) hc
  have e : (pPri m l c).toInt = (pRest m l c).toInt - (pInt m l c).toInt ∧ 0 ≤ (pInt m l c).toInt ∧ (pInt m l c).toInt ≤ 199999 ∧ (pInt m l c).toInt ≤ (m (34 + 11 * l + 6)).toInt ∧ (pInt m l c).toInt ≤ (pRest m l c).toInt ∧ ((pInt m l c).toInt = (m (34 + 11 * l + 6)).toInt ∨ (pInt m l c).toInt = (pRest m l c).toInt) := by
    unfold pPri pInt
    by_cases d : m (34 + 11 * l + 6) ≤ pRest m l c
    · rw [if_pos d]
      rw [tle] at d
      rw [tsub] <;> omega
    · rw [if_neg d]
      rw [tle] at d
      rw [tsub] <;> omega
  omega
theorem pool_b {K : Int} {m : Mt} (h : InvM K m) {l : Nat} (hl : l < nb m) {c : Int32} (hc : 0 ≤ c.toInt ∧ c.toInt ≤ 199999) : (pPool m l c).toInt = (pInt m l c).toInt * (m 5).toInt / 100 ∧ 0 ≤ (pPool m l c).toInt ∧ (pPool m l c).toInt ≤ (pInt m l c).toInt ∧ ((pInt m l c).toInt64 * (m 5).toInt64 / 100).toInt32 = pPool m l c := by
  obtain ⟨i1, i2, -⟩ := int_b h hl hc
  have s := h.2.2.1
  have h1 : (pInt m l c).toInt * (m 5).toInt ≤ (pInt m l c).toInt * 50 := Int.mul_le_mul_of_nonneg_left s.2 i1
  have h0 : 0 ≤ (pInt m l c).toInt * (m 5).toInt := Int.mul_nonneg i1 s.1
  have e := tmul (x := pInt m l c) (y := m 5) (by omega) (by omega)
  have e2 : (pPool m l c).toInt = (pInt m l c).toInt * (m 5).toInt / 100 := by
    unfold pPool
    rw [tdiv (by rw [e]; exact h0) (by decide), e]
    rfl
  refine ⟨e2, by omega, by omega, ?_⟩
  unfold pPool
  exact lmd_s i1 s.1 rfl (by decide) (by omega)
theorem feeFor_eq {K : Int} {σ : Sto} {m : Mt} (h : InvM K m) (hm : Mod σ m) {l : Nat} (hl : l < nb m) {c : Int32} (hc : 0 ≤ c.toInt) (hp : c.toInt * (feeI (svc m l)).toInt < 2147483648) : dc_X10_feeFor (nI l) c σ = some (pFee m l c, σ) := by
  have hb := h.1.b.2
  obtain ⟨s1, s2⟩ := svc_eq h hl
  have hf := feeb (svc m l)
  unfold dc_X10_feeFor
  rw [of_9 hm (by omega), bd_s, s1, mfee_eq s2, bd_s, lmd_s (w := 1000) hc (by omega) rfl (by decide) hp]
  rfl
theorem prod_b {m : Mt} {l : Nat} {c : Int32} (hc : 0 ≤ c.toInt ∧ c.toInt ≤ 199999) : c.toInt * (feeI (svc m l)).toInt < 2147483648 := by
  have hf := feeb (svc m l)
  have h1 : c.toInt * (feeI (svc m l)).toInt ≤ c.toInt * 40 := Int.mul_le_mul_of_nonneg_left hf.2 hc.1
  omega
theorem canPay_eq {K : Int} {σ : Sto} {m : Mt} (h : InvM K m) (hm : Mod σ m) {l : Nat} (hl : l < nb m) {c : Int32} (hc : 0 ≤ c.toInt ∧ c.toInt ≤ 199999) : dc_X10_canPay (nI l) c σ = some (if pOk m l c then 1 else 0, σ) := by
  have hb := h.1.b.2
  unfold dc_X10_canPay
  rw [runs_eq hm (by omega), bd_s]
  by_cases r : m (34 + 11 * l + 3) = 1
  · rw [if_pos r, if_neg (by decide), feeFor_eq h hm hl hc.1 (prod_b hc), bd_s, of_6 hm (by omega), bd_s, of_4 hm (by omega), bd_s]
    by_cases d : pRest m l c ≤ m (34 + 11 * l + 6) + m (34 + 11 * l + 4)
    · rw [if_neg (show ¬ m (34 + 11 * l + 6) + m (34 + 11 * l + 4) < c - pFee m l c from fun z => by rw [tle] at d; rw [tlt] at z; unfold pRest at d; omega), if_pos ⟨r, d⟩]
    · rw [if_pos (show m (34 + 11 * l + 6) + m (34 + 11 * l + 4) < c - pFee m l c by rw [tle] at d; rw [tlt]; unfold pRest at d; omega), if_neg (fun z => d z.2)]
  · rw [if_neg r, if_pos rfl, if_neg (fun z => r z.1)]
def spl (m : Mt) (l : Nat) (c w : Int32) : Int32 := if w = 0 then pFee m l c else if w = 1 then pInt m l c else if w = 2 then pPool m l c else if w = 3 then pPri m l c else if w = 4 then pSen m l c else pJun m l c
theorem ib_5' : inb (5 : Int32) 564 := ib_5
theorem splitBy_eq {K : Int} {σ : Sto} {m : Mt} (h : InvM K m) (hm : Mod σ m) {l : Nat} (hl : l < nb m) {c : Int32} (hc : 0 ≤ c.toInt ∧ c.toInt ≤ 199999) (w : Int32) : dc_X10_splitBy (nI l) c w σ = some (spl m l c w, σ) := by
  have hb := h.1.b.2
  unfold dc_X10_splitBy
  rw [feeFor_eq h hm hl hc.1 (prod_b hc), bd_s, of_6 hm (by omega), bd_s]
  have k1 : ∀ K' : Int32 → Sto → Option (Int32 × Sto), jn K' (fun k7 => if m (34 + 11 * l + 6) ≤ c - pFee m l c then (bd (dc_X10_of (nI l) 6 σ) fun r17 σ18 => k7 r17 σ18) else k7 (c - pFee m l c) σ) = K' (pInt m l c) σ := fun K' => by
    show (if m (34 + 11 * l + 6) ≤ c - pFee m l c then (bd (dc_X10_of (nI l) 6 σ) fun r17 σ18 => K' r17 σ18) else K' (c - pFee m l c) σ) = _
    rw [of_6 hm (by omega), bd_s]
    unfold pInt pRest
    by_cases d : m (34 + 11 * l + 6) ≤ c - pFee m l c
    · rw [if_pos d, if_pos d]
    · rw [if_neg d, if_neg d]
  rw [k1, pr_eq hm h.1, bd_s]
  have k2 : ∀ K' : Int32 → Option (Int32 × Sto), jn K' (fun k11 => if pr m (nI l) 0 ≤ c - pFee m l c - pInt m l c then k11 (pr m (nI l) 0) else k11 (c - pFee m l c - pInt m l c)) = K' (pSen m l c) := fun K' => by
    show (if pr m (nI l) 0 ≤ c - pFee m l c - pInt m l c then K' (pr m (nI l) 0) else K' (c - pFee m l c - pInt m l c)) = _
    unfold pSen pPri pRest
    by_cases d : pr m (nI l) 0 ≤ c - pFee m l c - pInt m l c
    · rw [if_pos d, if_pos d]
    · rw [if_neg d, if_neg d]
  rw [k2, if_pos ib_5, cl_5, hm 5 (by decide), (pool_b h hl hc).2.2.2]
  unfold spl
  by_cases w0 : w = 0
  · rw [if_pos w0, if_pos w0]
  rw [if_neg w0, if_neg w0]
  by_cases w1 : w = 1
  · rw [if_pos w1, if_pos w1]
  rw [if_neg w1, if_neg w1]
  by_cases w2 : w = 2
  · rw [if_pos w2, if_pos w2]
  rw [if_neg w2, if_neg w2]
  by_cases w3 : w = 3
  · rw [if_pos w3, if_pos w3]
    rfl
  rw [if_neg w3, if_neg w3]
  by_cases w4 : w = 4
  · rw [if_pos w4, if_pos w4]
  rw [if_neg w4, if_neg w4]
  rfl
/-- the class's parts -/
def Prt (τ : Sto) (m : Mt) (l : Nat) (c : Int32) : Prop := τ.1 112 0 0 = pFee m l c ∧ τ.1 113 0 0 = pInt m l c ∧ τ.1 114 0 0 = pPool m l c ∧ τ.1 115 0 0 = pPri m l c ∧ τ.1 116 0 0 = pSen m l c ∧ τ.1 117 0 0 = pJun m l c
def FrP (σ τ : Sto) : Prop := (∀ f, ¬ (112 ≤ f ∧ f ≤ 117) → τ.1 f = σ.1 f) ∧ τ.2 = σ.2
theorem FrP.refl (σ : Sto) : FrP σ σ := ⟨fun _ _ => rfl, rfl⟩
theorem FrP_up {σ τ : Sto} {f j l : Nat} {v : Int32} (hf : 112 ≤ f ∧ f ≤ 117) (h : FrP σ τ) : FrP σ (up τ f j l v) := ⟨fun f' h' => (up_f (by rintro rfl; exact h' hf)).trans (h.1 f' h'), h.2⟩
theorem Cla_upP {σ : Sto} {j : Nat} {m : Mt} {f j' l : Nat} {v : Int32} (hf : 112 ≤ f ∧ f ≤ 117) (hc : Cla σ j m) : Cla (up σ f j' l v) j m := Cla_up (by unfold isM; simp only [Bool.or_eq_false_iff, Bool.and_eq_false_iff, decide_eq_false_iff_not]; omega) hc
theorem areOf_eq {K : Int} {σ : Sto} {m : Mt} (h : InvM K m) (hr : Cla σ 0 m) {l : Nat} (hl : l < nb m) (c : Int32) : ∃ τ, dc_X7_areOf 0 (nI l) c σ = some (if pOk m l c then 1 else 0, τ) ∧ FrP σ τ ∧ (pOk m l c → Prt τ m l c) := by
  have hb := h.1.b.2
  have hc := h.1
  obtain ⟨s1, s2⟩ := svc_eq h hl
  have q := hr.2.2.1 l (by omega)
  unfold dc_X7_areOf
  rw [xruns_eq hr hc hl, bd_s]
  by_cases r : m (34 + 11 * l + 3) = 1
  · rw [if_pos r, if_neg (by decide), if_pos (inb_nI (show l < 10 by omega) (by decide)), nI_clamp (by omega), q.2.2.2.2.2.2.2.2.2.1, s1, fee_eq s2, bd_s, up_eq, up_ne (by decide), up_ne (by decide), q.2.2.2.2.2.2.1, q.2.2.2.2.1]
    by_cases d : pRest m l c ≤ m (34 + 11 * l + 6) + m (34 + 11 * l + 4)
    · have d' : c - c * feeI (svc m l) / 1000 ≤ m (34 + 11 * l + 6) + m (34 + 11 * l + 4) := d
      simp only [lt]
      simp (disch := decide) only [up_ne, up_eq]
      rw [if_pos d', hr.1.2.2.2.2.2.1, jm_eq]
      have e1 : (if m (34 + 11 * l + 6) ≤ c - c * feeI (svc m l) / 1000 then m (34 + 11 * l + 6) else c - c * feeI (svc m l) / 1000) = pInt m l c := rfl
      rw [e1]
      have c4 : Cla (up (up (up (up σ 112 0 0 (c * feeI (svc m l) / 1000)) 113 0 0 (pInt m l c)) 114 0 0 (pInt m l c * m 5 / 100)) 115 0 0 (c - c * feeI (svc m l) / 1000 - pInt m l c)) 0 m := Cla_upP (by decide) (Cla_upP (by decide) (Cla_upP (by decide) (Cla_upP (by decide) hr)))
      rw [xpr_eq c4 hc _ 0 (by decide), bd_s, jm_eq]
      have e2 : (if pr m (nI l) 0 ≤ c - c * feeI (svc m l) / 1000 - pInt m l c then pr m (nI l) 0 else c - c * feeI (svc m l) / 1000 - pInt m l c) = pSen m l c := rfl
      simp (disch := decide) only [up_ne, up_eq]
      rw [e2, if_pos ⟨r, d⟩]
      refine ⟨_, rfl, FrP_up (by decide) (FrP_up (by decide) (FrP_up (by decide) (FrP_up (by decide) (FrP_up (by decide) (FrP_up (by decide) (FrP.refl σ)))))), fun _ => ?_⟩
      unfold Prt
      simp (disch := decide) only [up_ne, up_eq]
      exact ⟨rfl, trivial, rfl, rfl, trivial, rfl⟩
    · have d' : ¬ c - c * feeI (svc m l) / 1000 ≤ m (34 + 11 * l + 6) + m (34 + 11 * l + 4) := d
      rw [if_neg d', if_neg (fun z => d z.2)]
      exact ⟨_, rfl, FrP_up (by decide) (FrP.refl σ), fun z => absurd z.2 d⟩
  · rw [if_neg r, if_pos rfl, if_neg (fun z => r z.1)]
    exact ⟨σ, rfl, FrP.refl σ, fun z => absurd z.1 r⟩
theorem FrP.rcl {σ τ : Sto} {Z : Zt} (h : FrP σ τ) (hr : RCl σ Z) : RCl τ Z := by
  have hM : ∀ f, isM f = true → τ.1 f = σ.1 f := fun f hf => h.1 f (by revert hf; unfold isM; simp only [Bool.or_eq_true, Bool.and_eq_true, decide_eq_true_eq]; omega)
  obtain ⟨r0, r1, r2, r3, r4, r5, r6, r7, r8⟩ := hr
  refine ⟨r0.congrM fun f hf => by rw [hM f hf], ?_, fun s hs => ?_, ?_, ?_, ?_, fun q hq => (r6 q hq).congrM fun f hf => by rw [hM f hf], ?_, ?_⟩
  · rw [h.1 33 (by decide)]; exact r1
  · rw [h.2]; exact (r2 s hs).congrM fun f hf => by rw [hM f hf]
  · rw [h.2]; exact r3
  · rw [h.2]; exact r4
  · rw [h.1 147 (by decide)]; exact r5
  · rw [h.1 17 (by decide)]; exact r7
  · rw [h.1 256 (by decide)]; exact r8
theorem FrP.sameM {σ τ : Sto} (h : FrP σ τ) : SameM σ τ := fun f hf => h.1 f (by
  revert hf
  unfold isC
  simp only [Bool.or_eq_false_iff, decide_eq_false_iff_not]
  omega)
theorem Pair.f {K : Int} {Z : Zt} (hI : InvZ K Z) {f9 f10 : Sto → Option (Int32 × Sto)} (r : Int32) (h9 : ∀ σ, RCl σ Z → ∃ τ, f9 σ = some (r, τ) ∧ FrP σ τ) (h10 : ∀ σ, RMo σ Z → f10 σ = some (r, up σ 160 0 0 0)) : Pair K Z f9 f10 :=
  ⟨r, Z, hI, fun σ h => by
    obtain ⟨τ, a, b⟩ := h9 σ h
    exact ⟨τ, a, b.rcl h, b.sameM⟩, fun σ h => ⟨_, h10 σ h, ⟨Mod_un h.1 (by decide), RMx_up h.2 (by decide)⟩, SameC_up rfl⟩⟩
theorem q_split {K : Int} {Z : Zt} (hI : InvZ K Z) (a c w : Int32) : Pair K Z (dc_X9_split a c w) (dc_X10_split a c w) := by
  have hc := hI.1.1
  have z1 : (1 : Int32).toInt = 1 := rfl
  have z9 : (199999 : Int32).toInt = 199999 := rfl
  have z0 : (0 : Int32).toInt = 0 := rfl
  have z5 : (5 : Int32).toInt = 5 := rfl
  by_cases h : isL Z.1 a
  · obtain ⟨l, hl, rfl⟩ := isL_of hc h
    by_cases hp : (1 : Int32).toInt ≤ c.toInt ∧ c.toInt ≤ (199999 : Int32).toInt
    · have hp' : 0 ≤ c.toInt ∧ c.toInt ≤ 199999 := by omega
      by_cases hw : (0 : Int32).toInt ≤ w.toInt ∧ w.toInt ≤ (5 : Int32).toInt
      · by_cases ho : pOk Z.1 l c
        · refine Pair.f hI (spl Z.1 l c w) (fun σ hr => ?_) (fun σ hr => ?_)
          · obtain ⟨τ, t1, t2, t3⟩ := areOf_eq hI.1 hr.1 hl c
            obtain ⟨p0, p1, p2, p3, p4, p5⟩ := t3 ho
            refine ⟨τ, ?_, t2⟩
            unfold dc_X9_split
            rw [hasL_eq hr.1, bd_s, if_pos h, if_neg (by decide), isPm_eq, bd_s, rng, if_pos hp, if_neg (by decide), if_neg (by rw [tlt]; omega), if_pos (by rw [tle]; omega), t1, bd_s, if_pos ho, if_neg (by decide), p0, p1, p2, p3, p4, p5]
            unfold spl
            repeat (first | rfl | refine ite_q ?_)
          · have hm := hr.t
            unfold dc_X10_split
            rw [isL_eq hm hc, bd_s, if_pos h, if_neg (by decide), in_eq, bd_s, rng, if_pos hp, if_neg (by decide), in_eq, bd_s, rng, if_pos hw, if_neg (by decide), canPay_eq hI.1 hm hl hp', bd_s, if_pos ho, if_neg (by decide), splitBy_eq hI.1 hm hl hp', bd_s]
        · refine Pair.f hI (-4) (fun σ hr => ?_) (fun σ hr => ?_)
          · obtain ⟨τ, t1, t2, t3⟩ := areOf_eq hI.1 hr.1 hl c
            refine ⟨τ, ?_, t2⟩
            unfold dc_X9_split
            rw [hasL_eq hr.1, bd_s, if_pos h, if_neg (by decide), isPm_eq, bd_s, rng, if_pos hp, if_neg (by decide), if_neg (by rw [tlt]; omega), if_pos (by rw [tle]; omega), t1, bd_s, if_neg ho, if_pos rfl]
          · have hm := hr.t
            unfold dc_X10_split
            rw [isL_eq hm hc, bd_s, if_pos h, if_neg (by decide), in_eq, bd_s, rng, if_pos hp, if_neg (by decide), in_eq, bd_s, rng, if_pos hw, if_neg (by decide), canPay_eq hI.1 hm hl hp', bd_s, if_neg ho, if_pos rfl]
      · refine Pair.f hI (-2) (fun σ hr => ⟨σ, ?_, FrP.refl σ⟩) (fun σ hr => ?_)
        · unfold dc_X9_split
          rw [hasL_eq hr.1, bd_s, if_pos h, if_neg (by decide), isPm_eq, bd_s, rng, if_pos hp, if_neg (by decide)]
          by_cases c1 : w < 0
          · rw [if_pos c1]
          · rw [if_neg c1, if_neg (by rw [tle]; rw [tlt] at c1; omega)]
        · have hm := hr.t
          unfold dc_X10_split
          rw [isL_eq hm hc, bd_s, if_pos h, if_neg (by decide), in_eq, bd_s, rng, if_pos hp, if_neg (by decide), in_eq, bd_s, rng, if_neg hw, if_pos rfl]
    · refine Pair.f hI (-2) (fun σ hr => ⟨σ, ?_, FrP.refl σ⟩) (fun σ hr => ?_)
      · unfold dc_X9_split
        rw [hasL_eq hr.1, bd_s, if_pos h, if_neg (by decide), isPm_eq, bd_s, rng, if_neg hp, if_pos rfl]
      · have hm := hr.t
        unfold dc_X10_split
        rw [isL_eq hm hc, bd_s, if_pos h, if_neg (by decide), in_eq, bd_s, rng, if_neg hp, if_pos rfl]
  · refine Pair.f hI (-1) (fun σ hr => ⟨σ, ?_, FrP.refl σ⟩) (fun σ hr => ?_)
    · unfold dc_X9_split
      rw [hasL_eq hr.1, bd_s, if_neg h, if_pos rfl]
    · have hm := hr.t
      unfold dc_X10_split
      rw [isL_eq hm hc, bd_s, if_neg h, if_pos rfl]
