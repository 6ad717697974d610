/-! a payment is taken by the loan -/
def b7 (E : Mt) (l : Nat) (p : Int32) : Int32 := if E (34 + 11 * l + 7) ≤ p then 0 else E (34 + 11 * l + 7) - p
def tkA (E : Mt) (l : Nat) (i p : Int32) : Mt := upd (upd (upd E (34 + 11 * l + 6) (E (34 + 11 * l + 6) - i)) (34 + 11 * l + 4) (E (34 + 11 * l + 4) - p)) (34 + 11 * l + 7) (b7 E l p)
def tkB (E : Mt) (l : Nat) (i p : Int32) : Mt := if E (34 + 11 * l + 6) - i = 0 ∧ b7 E l p = 0 then upd (tkA E l i p) (34 + 11 * l + 8) 0 else tkA E l i p
def tkM (E : Mt) (l : Nat) (i p : Int32) : Mt := if E (34 + 11 * l + 6) - i = 0 ∧ E (34 + 11 * l + 4) - p = 0 then endM (tkB E l i p) l 2 else tkB E l i p
theorem tkA_v {E : Mt} {l : Nat} {i p : Int32} : tkA E l i p (34 + 11 * l + 6) = E (34 + 11 * l + 6) - i ∧ tkA E l i p (34 + 11 * l + 4) = E (34 + 11 * l + 4) - p ∧ tkA E l i p (34 + 11 * l + 7) = b7 E l p ∧ ∀ k, k ≠ 34 + 11 * l + 6 → k ≠ 34 + 11 * l + 4 → k ≠ 34 + 11 * l + 7 → tkA E l i p k = E k := by
  unfold tkA
  refine ⟨?_, ?_, ?_, fun k h1 h2 h3 => ?_⟩
  · rw [upd_ne (by omega), upd_ne (by omega), upd_eq]
  · rw [upd_ne (by omega), upd_eq]
  · rw [upd_eq]
  · rw [upd_ne h3, upd_ne h2, upd_ne h1]
theorem tkB_v {E : Mt} {l : Nat} {i p : Int32} : tkB E l i p (34 + 11 * l + 6) = E (34 + 11 * l + 6) - i ∧ tkB E l i p (34 + 11 * l + 4) = E (34 + 11 * l + 4) - p ∧ tkB E l i p (34 + 11 * l + 7) = b7 E l p ∧ (tkB E l i p (34 + 11 * l + 8) = if E (34 + 11 * l + 6) - i = 0 ∧ b7 E l p = 0 then 0 else E (34 + 11 * l + 8)) ∧ ∀ k, k ≠ 34 + 11 * l + 6 → k ≠ 34 + 11 * l + 4 → k ≠ 34 + 11 * l + 7 → k ≠ 34 + 11 * l + 8 → tkB E l i p k = E k := by
  obtain ⟨a, b, c, d⟩ := tkA_v (E := E) (l := l) (i := i) (p := p)
  unfold tkB
  by_cases h : E (34 + 11 * l + 6) - i = 0 ∧ b7 E l p = 0
  · rw [if_pos h, if_pos h]
    refine ⟨by rw [upd_ne (by omega)]; exact a, by rw [upd_ne (by omega)]; exact b, by rw [upd_ne (by omega)]; exact c, upd_eq, fun k h1 h2 h3 h4 => by rw [upd_ne h4]; exact d k h1 h2 h3⟩
  · rw [if_neg h, if_neg h]
    exact ⟨a, b, c, d _ (by omega) (by omega) (by omega), fun k h1 h2 h3 h4 => d k h1 h2 h3⟩
theorem tkM_out {E : Mt} {l k : Nat} {i p : Int32} (h : ¬ (34 + 11 * l + 3 ≤ k ∧ k ≤ 34 + 11 * l + 10)) : tkM E l i p k = E k := by
  have q := (tkB_v (E := E) (l := l) (i := i) (p := p)).2.2.2.2 k (by omega) (by omega) (by omega) (by omega)
  unfold tkM
  by_cases c : E (34 + 11 * l + 6) - i = 0 ∧ E (34 + 11 * l + 4) - p = 0
  · rw [if_pos c, endM_out h]; exact q
  · rw [if_neg c]; exact q
theorem tkM_4 {E : Mt} {l : Nat} {i p : Int32} : tkM E l i p (34 + 11 * l + 4) = E (34 + 11 * l + 4) - p := by
  unfold tkM
  by_cases c : E (34 + 11 * l + 6) - i = 0 ∧ E (34 + 11 * l + 4) - p = 0
  · rw [if_pos c, endM_in.2.1, c.2]
  · rw [if_neg c]; exact tkB_v.2.1
theorem b7_max {E : Mt} {l : Nat} {p : Int32} (hp : 0 ≤ p.toInt) (h7 : 0 ≤ (E (34 + 11 * l + 7)).toInt) : jmax 0 (E (34 + 11 * l + 7) - p) = b7 E l p := by
  have e : (E (34 + 11 * l + 7) - p).toInt = (E (34 + 11 * l + 7)).toInt - p.toInt := by
    have := thi p
    have := thi (E (34 + 11 * l + 7))
    rw [tsub] <;> omega
  unfold jmax b7
  by_cases c : E (34 + 11 * l + 7) ≤ p
  · rw [if_pos c, if_neg]
    rw [tlt, e, show (0 : Int32).toInt = 0 from rfl]
    rw [tle] at c
    omega
  · rw [if_neg c, if_pos]
    rw [tlt, e, show (0 : Int32).toInt = 0 from rfl]
    rw [tle] at c
    omega
theorem tk_c {σ : Sto} {E : Mt} {l : Nat} {i p : Int32} (hl : l < 10) (h : Cla σ 0 E) (hp : 0 ≤ p.toInt) (h7 : 0 ≤ (E (34 + 11 * l + 7)).toInt) : ∃ τ, dc_X4_takePayment 0 l i p σ = some τ ∧ FrJ 0 σ τ ∧ Cla τ 0 (tkM E l i p) := by
  have q := h.2.2.1 l hl
  have c1 := Cla_up70 (v := E (34 + 11 * l + 6) - i) hl h
  have c2 := Cla_up68 (v := E (34 + 11 * l + 4) - p) hl c1
  have c3 : Cla (up (up (up σ 70 0 l (E (34 + 11 * l + 6) - i)) 68 0 l (E (34 + 11 * l + 4) - p)) 71 0 l (b7 E l p)) 0 (tkA E l i p) := Cla_up71 (v := b7 E l p) hl c2
  have f3 : FrJ 0 σ (up (up (up σ 70 0 l (E (34 + 11 * l + 6) - i)) 68 0 l (E (34 + 11 * l + 4) - p)) 71 0 l (b7 E l p)) := FrJ_up rfl (FrJ_up rfl (FrJ_up rfl (FrJ.refl 0 σ)))
  obtain ⟨v6, v4, v7, v⟩ := tkA_v (E := E) (l := l) (i := i) (p := p)
  -- the last step
  have last : ∀ τ, Cla τ 0 (tkB E l i p) → FrJ 0 σ τ → ∃ υ, (if τ.1 70 0 l = 0 then (if τ.1 68 0 l = 0 then (bv (dc_X4_end 0 l (2 : Int32) τ) fun σ5 => some σ5) else some τ) else some τ) = some υ ∧ FrJ 0 σ υ ∧ Cla υ 0 (tkM E l i p) := fun τ hc hf => by
    have r := hc.2.2.1 l hl
    obtain ⟨u6, u4, u7, u8, u⟩ := tkB_v (E := E) (l := l) (i := i) (p := p)
    rw [r.2.2.2.2.2.2.1, r.2.2.2.2.1, u6, u4]
    unfold tkM
    by_cases d6 : E (34 + 11 * l + 6) - i = 0
    · by_cases d4 : E (34 + 11 * l + 4) - p = 0
      · obtain ⟨υ, e1, e2, e3⟩ := end_c (s := 2) hl hc
        rw [if_pos d6, if_pos d4, e1, bv_s, if_pos ⟨d6, d4⟩]
        exact ⟨υ, rfl, hf.trans e2, e3⟩
      · rw [if_pos d6, if_neg d4, if_neg (fun z => d4 z.2)]
        exact ⟨τ, rfl, hf, hc⟩
    · rw [if_neg d6, if_neg (fun z => d6 z.1)]
      exact ⟨τ, rfl, hf, hc⟩
  unfold dc_X4_takePayment
  simp only [jn, lt]
  simp (disch := decide) only [up_ne, up_eq]
  rw [q.2.2.2.2.2.2.1, q.2.2.2.2.1, q.2.2.2.2.2.2.2.1, b7_max hp h7]
  by_cases d6 : E (34 + 11 * l + 6) - i = 0
  · by_cases d7 : b7 E l p = 0
    · rw [if_pos d6, if_pos d7]
      have e4 : tkB E l i p = upd (tkA E l i p) (34 + 11 * l + 8) 0 := if_pos ⟨d6, d7⟩
      obtain ⟨υ, e1, e2, e3⟩ := last (up (up (up (up σ 70 0 l (E (34 + 11 * l + 6) - i)) 68 0 l (E (34 + 11 * l + 4) - p)) 71 0 l (b7 E l p)) 72 0 l 0) (by rw [e4]; exact Cla_up72 (v := 0) hl c3) (FrJ_up rfl f3)
      refine ⟨υ, ?_, e2, e3⟩
      simp (disch := decide) only [up_ne, up_eq] at e1
      exact e1
    · rw [if_pos d6, if_neg d7]
      have e4 : tkB E l i p = tkA E l i p := if_neg fun z => d7 z.2
      obtain ⟨υ, e1, e2, e3⟩ := last _ (by rw [e4]; exact c3) f3
      refine ⟨υ, ?_, e2, e3⟩
      simp (disch := decide) only [up_ne, up_eq] at e1
      exact e1
  · rw [if_neg d6]
    have e4 : tkB E l i p = tkA E l i p := if_neg fun z => d6 z.1
    obtain ⟨υ, e1, e2, e3⟩ := last _ (by rw [e4]; exact c3) f3
    refine ⟨υ, ?_, e2, e3⟩
    simp (disch := decide) only [up_ne, up_eq] at e1
    exact e1
theorem z2 {a b : Int32} (ha : 0 ≤ a.toInt ∧ a.toInt ≤ 1300000) (hb : 0 ≤ b.toInt ∧ b.toInt ≤ 1300000) : a + b = 0 ↔ (a = 0 ∧ b = 0) := by
  have z0 : (0 : Int32).toInt = 0 := rfl
  rw [teq, teq a, teq b, tadd (by omega) (by omega), z0]
  omega
theorem RS.of {σ : Sto} {Z : Zt} {E : Mt} {C : Nat → Int} (h : RS σ Z E C) {l w : Nat} (hl : l < 10) (hw : w < 11) : dc_X10_of (nI l) (nI w) σ = some (E (34 + 11 * l + w), σ) := by
  obtain ⟨m', o, a, b, c⟩ := h
  rw [of_nI a.1 hl hw, b _ (by omega) (nCash (by omega))]
theorem tk_m {σ : Sto} {Z : Zt} {E : Mt} {C : Nat → Int} {l : Nat} {i p : Int32} (h : RS σ Z E C) (hl : l < 10) (h6 : 0 ≤ (E (34 + 11 * l + 6) - i).toInt ∧ (E (34 + 11 * l + 6) - i).toInt ≤ 1300000) (h4 : 0 ≤ (E (34 + 11 * l + 4) - p).toInt ∧ (E (34 + 11 * l + 4) - p).toInt ≤ 1300000) (h7 : 0 ≤ (b7 E l p).toInt ∧ (b7 E l p).toInt ≤ 1300000) (h70 : E (34 + 11 * l + 4) - p = 0 → b7 E l p = 0) : ∃ τ, RS τ Z (tkM E l i p) C ∧ SameC σ τ ∧ (bd (dc_X10_of (nI l) (6 : Int32) σ) fun r26 σ27 => (bv (dc_X10_be (nI l) (6 : Int32) (r26 - i) σ27) fun σ29 => (bd (dc_X10_of (nI l) (4 : Int32) σ29) fun r30 σ31 => (bv (dc_X10_be (nI l) (4 : Int32) (r30 - p) σ31) fun σ33 => (bd (dc_X10_of (nI l) (7 : Int32) σ33) fun r34 σ35 => jn (fun (v36 : Int32) (σ37 : Sto) => (bv (dc_X10_be (nI l) (7 : Int32) v36 σ37) fun σ40 => (bd (dc_X10_of (nI l) (6 : Int32) σ40) fun r41 σ42 => (bd (dc_X10_of (nI l) (7 : Int32) σ42) fun r43 σ44 => jn (fun (v45 : Int32) (σ46 : Sto) => (bv (dc_X10_be (nI l) (8 : Int32) v45 σ46) fun σ49 => (bd (dc_X10_of (nI l) (4 : Int32) σ49) fun r50 σ51 => (bd (dc_X10_of (nI l) (6 : Int32) σ51) fun r52 σ53 => jn (fun (σ54 : Sto) => (bd (dc_X10_of (nI l) (4 : Int32) σ54) fun r56 σ57 => (bd (dc_X10_acted r56 σ57) fun r58 σ59 => some (r58, σ59)))) (fun k55 => (if (r50 + r52) = 0 then (bv (dc_X10_ends (nI l) (2 : Int32) σ53) fun σ61 => k55 σ61) else k55 σ53)))))) (fun k47 => (if (r41 + r43) = 0 then k47 (0 : Int32) σ44 else (bd (dc_X10_of (nI l) (8 : Int32) σ44) fun r62 σ63 => k47 r62 σ63))))))) (fun k38 => (if r34 ≤ p then k38 (0 : Int32) σ35 else (bd (dc_X10_of (nI l) (7 : Int32) σ35) fun r64 σ65 => k38 (r64 - p) σ65)))))))) = (bd (dc_X10_acted (E (34 + 11 * l + 4) - p) τ) fun r58 σ59 => some (r58, σ59)) := by
  obtain ⟨v6, v4, v7, v⟩ := tkA_v (E := E) (l := l) (i := i) (p := p)
  obtain ⟨u6, u4, u7, u8, u⟩ := tkB_v (E := E) (l := l) (i := i) (p := p)
  have r1 := h.set (k := 34 + 11 * l + 6) (v := E (34 + 11 * l + 6) - i) (nCash (by omega))
  have r2 := r1.set (k := 34 + 11 * l + 4) (v := E (34 + 11 * l + 4) - p) (nCash (by omega))
  have r3 : RS _ Z (tkA E l i p) C := r2.set (k := 34 + 11 * l + 7) (v := b7 E l p) (nCash (by omega))
  have r4 : RS _ Z (tkB E l i p) C := (r3.set (k := 34 + 11 * l + 8) (v := if E (34 + 11 * l + 6) - i = 0 ∧ b7 E l p = 0 then 0 else E (34 + 11 * l + 8)) (nCash (by omega))).congr (fun k _ => by
    by_cases e : k = 34 + 11 * l + 8
    · rw [e, upd_eq, u8]
    · rw [upd_ne e]
      by_cases e6 : k = 34 + 11 * l + 6
      · rw [e6, v6, u6]
      · by_cases e4 : k = 34 + 11 * l + 4
        · rw [e4, v4, u4]
        · by_cases e7 : k = 34 + 11 * l + 7
          · rw [e7, v7, u7]
          · rw [v k e6 e4 e7, u k e6 e4 e7 e]) (fun _ _ => rfl)
  have s4 : SameC σ (up (up (up (up σ 304 0 (34 + 11 * l + 6) (E (34 + 11 * l + 6) - i)) 304 0 (34 + 11 * l + 4) (E (34 + 11 * l + 4) - p)) 304 0 (34 + 11 * l + 7) (b7 E l p)) 304 0 (34 + 11 * l + 8) (if E (34 + 11 * l + 6) - i = 0 ∧ b7 E l p = 0 then 0 else E (34 + 11 * l + 8))) := SameC.trans (SameC_up (f := 304) rfl) (SameC.trans (SameC_up (f := 304) rfl) (SameC.trans (SameC_up (f := 304) rfl) (SameC_up (f := 304) rfl)))
  have n4 : (4 : Int32) = nI 4 := rfl
  have n6 : (6 : Int32) = nI 6 := rfl
  have n7 : (7 : Int32) = nI 7 := rfl
  have n8 : (8 : Int32) = nI 8 := rfl
  have q4 : upd E (34 + 11 * l + 6) (E (34 + 11 * l + 6) - i) (34 + 11 * l + 4) = E (34 + 11 * l + 4) := upd_ne (by omega)
  have q7 : upd (upd E (34 + 11 * l + 6) (E (34 + 11 * l + 6) - i)) (34 + 11 * l + 4) (E (34 + 11 * l + 4) - p) (34 + 11 * l + 7) = E (34 + 11 * l + 7) := by rw [upd_ne (by omega), upd_ne (by omega)]
  rw [n6, n4, n7, n8, h.of hl (by omega), bd_s, be_nI hl (by omega), bv_s, r1.of hl (by omega), bd_s, q4, be_nI hl (by omega), bv_s, r2.of hl (by omega), bd_s, q7]
  have k7 : ∀ (τ : Sto) (K : Int32 → Sto → Option (Int32 × Sto)), RS τ Z (upd (upd E (34 + 11 * l + 6) (E (34 + 11 * l + 6) - i)) (34 + 11 * l + 4) (E (34 + 11 * l + 4) - p)) C → jn K (fun k38 => (if E (34 + 11 * l + 7) ≤ p then k38 (0 : Int32) τ else (bd (dc_X10_of (nI l) (nI 7) τ) fun r64 σ65 => k38 (r64 - p) σ65))) = K (b7 E l p) τ := fun τ K hτ => by
    show (if E (34 + 11 * l + 7) ≤ p then K (0 : Int32) τ else (bd (dc_X10_of (nI l) (nI 7) τ) fun r64 σ65 => K (r64 - p) σ65)) = _
    rw [hτ.of hl (by omega), bd_s, q7]
    unfold b7
    by_cases c : E (34 + 11 * l + 7) ≤ p
    · rw [if_pos c, if_pos c]
    · rw [if_neg c, if_neg c]
  rw [k7 _ _ r2, be_nI hl (by omega), bv_s, r3.of hl (by omega), bd_s, r3.of hl (by omega), bd_s, v6, v7]
  have k8 : ∀ (τ : Sto) (K : Int32 → Sto → Option (Int32 × Sto)), RS τ Z (tkA E l i p) C → jn K (fun k47 => (if (E (34 + 11 * l + 6) - i) + b7 E l p = 0 then k47 (0 : Int32) τ else (bd (dc_X10_of (nI l) (nI 8) τ) fun r62 σ63 => k47 r62 σ63))) = K (if E (34 + 11 * l + 6) - i = 0 ∧ b7 E l p = 0 then 0 else E (34 + 11 * l + 8)) τ := fun τ K hτ => by
    show (if (E (34 + 11 * l + 6) - i) + b7 E l p = 0 then K (0 : Int32) τ else (bd (dc_X10_of (nI l) (nI 8) τ) fun r62 σ63 => K r62 σ63)) = _
    rw [hτ.of hl (by omega), bd_s, v _ (by omega) (by omega) (by omega)]
    by_cases c : E (34 + 11 * l + 6) - i = 0 ∧ b7 E l p = 0
    · rw [if_pos c, if_pos ((z2 h6 h7).mpr c)]
    · rw [if_neg c, if_neg (fun z => c ((z2 h6 h7).mp z))]
  rw [k8 _ _ r3, be_nI hl (by omega), bv_s, r4.of hl (by omega), bd_s, r4.of hl (by omega), bd_s, u4, u6]
  unfold tkM
  by_cases c : E (34 + 11 * l + 6) - i = 0 ∧ E (34 + 11 * l + 4) - p = 0
  · obtain ⟨υ, e1, e2, e3⟩ : ∃ υ, dc_X10_ends (nI l) 2 (up (up (up (up σ 304 0 (34 + 11 * l + 6) (E (34 + 11 * l + 6) - i)) 304 0 (34 + 11 * l + 4) (E (34 + 11 * l + 4) - p)) 304 0 (34 + 11 * l + 7) (b7 E l p)) 304 0 (34 + 11 * l + 8) (if E (34 + 11 * l + 6) - i = 0 ∧ b7 E l p = 0 then 0 else E (34 + 11 * l + 8))) = some υ ∧ RS υ Z (endM (tkB E l i p) l 2) C ∧ SameC (up (up (up (up σ 304 0 (34 + 11 * l + 6) (E (34 + 11 * l + 6) - i)) 304 0 (34 + 11 * l + 4) (E (34 + 11 * l + 4) - p)) 304 0 (34 + 11 * l + 7) (b7 E l p)) 304 0 (34 + 11 * l + 8) (if E (34 + 11 * l + 6) - i = 0 ∧ b7 E l p = 0 then 0 else E (34 + 11 * l + 8))) υ := ends_m r4 hl (by rw [u4]; exact c.2) (by rw [u6]; exact c.1) (by rw [u7]; exact h70 c.2)
    simp only [jn]
    rw [if_pos c, if_pos ((z2 h4 h6).mpr ⟨c.2, c.1⟩), e1, bv_s, e2.of hl (by omega), bd_s, endM_in.2.1, ← c.2]
    exact ⟨υ, e2, s4.trans e3, rfl⟩
  · simp only [jn]
    rw [if_neg c, if_neg (fun z => c (by have := (z2 h4 h6).mp z; exact ⟨this.2, this.1⟩)), r4.of hl (by omega), bd_s, u4]
    exact ⟨_, r4, s4, rfl⟩
