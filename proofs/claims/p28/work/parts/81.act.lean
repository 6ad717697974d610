/-! THE CLASS'S CALLS, case by case, in functions of the market (by wip/p28/pure/acts.py out of the parts 44 to 80) -/
def Ck (K : Int) (Z : Zt) (f : Sto → Option (Int32 × Sto)) (r : Int32) (m : Mt) : Prop := InvM K m ∧ ∀ σ, RCl σ Z → ∃ τ, f σ = some (r, τ) ∧ RCl τ (pushZ Z m) ∧ SameM σ τ
def Cq (Z : Zt) (f : Sto → Option (Int32 × Sto)) (r : Int32) : Prop := ∀ σ, RCl σ Z → ∃ τ, f σ = some (r, τ) ∧ RCl τ Z ∧ SameM σ τ
theorem Cq.s {Z : Zt} {f : Sto → Option (Int32 × Sto)} {r : Int32} (h : ∀ σ, RCl σ Z → f σ = some (r, σ)) : Cq Z f r := fun σ hr => ⟨σ, h σ hr, hr, SameM.refl σ⟩
theorem Cq.f {Z : Zt} {f : Sto → Option (Int32 × Sto)} {r : Int32} (h : ∀ σ, RCl σ Z → ∃ τ, f σ = some (r, τ) ∧ FrP σ τ) : Cq Z f r := fun σ hr => by
  obtain ⟨τ, a, b⟩ := h σ hr
  exact ⟨τ, a, b.rcl hr, b.sameM⟩
theorem Ck.a {K : Int} {Z : Zt} {f : Sto → Option (Int32 × Sto)} {r : Int32} {m : Mt} (hm : InvM K m) (h9 : ∀ σ, RCl σ Z → ∃ σ1 τ, (∀ f, isM f = false → f ≠ 33 → σ1.1 f = σ.1 f) ∧ RCl σ1 (recZ Z) ∧ f σ = some (r, τ) ∧ FrJ 0 σ1 τ ∧ Cla τ 0 m) : Ck K Z f r m := by
  refine ⟨hm, fun σ h => ?_⟩
  obtain ⟨σ1, τ, a, b, c, d, e⟩ := h9 σ h
  obtain ⟨u, v⟩ := fin_c a b d e
  exact ⟨τ, c, u, v⟩
theorem Ck.a2 {K : Int} {Z : Zt} {f : Sto → Option (Int32 × Sto)} {r : Int32} {m : Mt} (hm : InvM K m) (h9 : ∀ σ, RCl σ Z → ∃ σ0 σ1 τ, SameM σ σ0 ∧ (∀ f, isM f = false → f ≠ 33 → σ1.1 f = σ0.1 f) ∧ RCl σ1 (recZ Z) ∧ f σ = some (r, τ) ∧ FrJ 0 σ1 τ ∧ Cla τ 0 m) : Ck K Z f r m := by
  refine ⟨hm, fun σ h => ?_⟩
  obtain ⟨σ0, σ1, τ, z, a, b, c, d, e⟩ := h9 σ h
  obtain ⟨u, v⟩ := fin_c a b d e
  exact ⟨τ, c, u, z.trans v⟩
theorem isN_nI {m : Mt} (hc : Cnt m) {l : Nat} (hl : l < nc m) : isN m (nI l) := by
  obtain ⟨e, h⟩ := hc.c
  unfold isN
  rw [nI_toInt (by omega), e, nI_toInt (by omega)]
  omega
theorem e_addI {K : Int} {Z : Zt} (hI : InvZ K Z) {a : Int32} (h0 : 0 ≤ a) (h8 : ¬ na Z.1 = 8) : Ck K Z (dc_X9_addInvestor a) (Z.1 1) (upd (upd Z.1 (10 + 3 * na Z.1) a) 1 (Z.1 1 + 1)) := by
  have hc := hI.1.1
  obtain ⟨e1, ha8⟩ := hc.a
  have hd := hI.1.2.2.2.2.2.2.2.2 (na Z.1) (Nat.le_refl _) (by omega)
  refine Ck.a ?_ (fun σ hr => ?_)
  · have e2 : (Z.1 1 + 1).toInt = (Z.1 1).toInt + 1 := by
      have := hc.1.2
      rw [tadd] <;> rw [show (1 : Int32).toInt = 1 from rfl] <;> (have := hc.1.1; omega)
    have e8 : (Z.1 1).toInt = na Z.1 := (clI hc.1.1).symm
    have na' : na (upd (upd Z.1 (10 + 3 * na Z.1) a) 1 (Z.1 1 + 1)) = na Z.1 + 1 := by
      unfold na
      rw [upd_eq, tcl, e2]
      show _ = (Z.1 1).toNatClampNeg + 1
      rw [tcl]
      have := hc.1.1
      omega
    refine InvM_low hI.1 (fun k hk => ?_) ?_ ?_ ?_ ⟨?_, ?_⟩ ?_ ?_ (fun i hi => ?_) (fun i h1 h2 => ?_)
    · rw [upd_ne (by omega), upd_ne (by omega)]
    · rw [upd_ne (by omega), upd_ne (by omega)]
    · rw [upd_ne (by omega), upd_ne (by omega)]
    · rw [upd_ne (by omega), upd_ne (by omega)]
    · rw [upd_eq, e2]; omega
    · rw [upd_eq, e2]; omega
    · rw [upd_ne (by omega), upd_ne (by omega)]; exact hI.1.2.2.1
    · rw [upd_ne (by omega), upd_ne (by omega)]; exact hI.1.2.2.2.1
    · rw [upd_ne (by omega)]
      by_cases e : i = na Z.1
      · rw [e, upd_eq]; exact (tle 0 a).mp h0
      · rw [upd_ne (by omega)]; exact hI.1.2.2.2.2.1 i hi
    · rw [na'] at h1
      rw [upd_ne (by omega), upd_ne (by omega), upd_ne (by omega), upd_ne (by omega)]
      exact hI.1.2.2.2.2.2.2.2.2 i (by omega) h2
  · obtain ⟨σ1, p1, p2, p3⟩ := record_eq hr
    have q := p2.1
    have q1 : σ1.1 84 0 0 = nI (na Z.1) := q.1.2.1.trans e1
    refine ⟨σ1, up (up (up (up σ1 48 0 (na Z.1) a) 49 0 (na Z.1) 0) 50 0 (na Z.1) 0) 84 0 0 (Z.1 1 + 1), p3, p2, ?_, FrJ_up rfl (FrJ_up rfl (FrJ_up rfl (FrJ_up rfl (FrJ.refl 0 σ1)))), ?_⟩
    rotate_left
    · have c4 := Cla_up84 (v := Z.1 1 + 1) (Cla_up50 (v := 0) (i0 := na Z.1) (by omega) (Cla_up49 (v := 0) (i0 := na Z.1) (by omega) (Cla_up48 (v := a) (i0 := na Z.1) (by omega) q)))
      rw [upd_same (f := upd (upd _ _ _) _ _) (v := 0) (by rw [upd_ne (by omega), upd_ne (by omega)]; exact hd.2), upd_same (f := upd _ _ _) (v := 0) (by rw [upd_ne (by omega)]; exact hd.1)] at c4
      exact c4
    · unfold dc_X9_addInvestor dc_X3_open
      simp only [lt]
      rw [if_pos h0, hr.1.1.2.1, e1, if_pos (by rw [show (8 : Int32) = nI 8 from rfl, nI_ltI (by omega) (by omega)]; omega), p1, bv_s, q1, if_pos (inb_nI (show na Z.1 < 8 by omega) (by decide)), nI_clamp (by omega), bv_s, up_ne (by decide), up_ne (by decide), up_ne (by decide), q1, ← e1]
theorem e_addI2 {K : Int} {Z : Zt} (hI : InvZ K Z) {a : Int32} (h0 : ¬ 0 ≤ a) : Cq Z (dc_X9_addInvestor a) (-2) := by
  refine Cq.s fun σ hr => ?_
  unfold dc_X9_addInvestor
  rw [if_neg h0]
theorem e_dep {K : Int} {Z : Zt} (hI : InvZ K Z) {i : Nat} {b : Int32} (hi : i < na Z.1) (h1 : 1 ≤ b) (h2 : (Z.1 (10 + 3 * i)).toInt + b.toInt ≤ 2147483647) : Ck K Z (dc_X9_deposit (nI i) b) (Z.1 (10 + 3 * i) + b) (upd Z.1 (10 + 3 * i) (Z.1 (10 + 3 * i) + b)) := by
  have hc := hI.1.1
  have h := isI_nI hc hi
  have hi8 := hc.a.2
  have hcash := hI.1.2.2.2.2.1 i (by omega)
  have z1 : (1 : Int32).toInt = 1 := rfl
  have h1' := (tle 1 b).mp h1
  rw [z1] at h1'
  have es : ((2147483647 : Int32) - Z.1 (10 + 3 * i)).toInt = 2147483647 - (Z.1 (10 + 3 * i)).toInt := by
    have := thi (Z.1 (10 + 3 * i))
    rw [tsub] <;> rw [show (2147483647 : Int32).toInt = 2147483647 from rfl] <;> omega
  have eo : (b ≤ (2147483647 : Int32) - Z.1 (10 + 3 * i)) ↔ (Z.1 (10 + 3 * i)).toInt + b.toInt ≤ 2147483647 := by
    rw [tle, es]; omega
  refine Ck.a ?_ (fun σ hr => ?_)
  · refine InvM_low hI.1 (fun k hk => upd_ne (by omega)) (upd_ne (by omega)) (upd_ne (by omega)) (upd_ne (by omega)) ?_ ?_ ?_ (fun k hk => ?_) (fun k q1 q2 => ?_)
    · rw [upd_ne (by omega)]; exact ⟨Int.le_refl _, hc.1.2⟩
    · rw [upd_ne (by omega)]; exact hI.1.2.2.1
    · rw [upd_ne (by omega)]; exact hI.1.2.2.2.1
    · by_cases e : k = i
      · rw [e, upd_eq, tadd] <;> omega
      · rw [upd_ne (by omega)]; exact hI.1.2.2.2.2.1 k hk
    · unfold na at q1
      rw [upd_ne (by omega)] at q1
      rw [upd_ne (by omega), upd_ne (by omega)]
      exact hI.1.2.2.2.2.2.2.2.2 k q1 q2
  · obtain ⟨σ1, p1, p2, p3⟩ := record_eq hr
    have q := (hr.1.2.1 i (by omega)).1
    have q' := (p2.1.2.1 i (by omega)).1
    refine ⟨σ1, up σ1 48 0 i (Z.1 (10 + 3 * i) + b), p3, p2, ?_, FrJ_up rfl (FrJ.refl 0 σ1), Cla_up48 (by omega) p2.1⟩
    unfold dc_X9_deposit
    rw [hasI_eq hr.1, bd_s, if_pos h, if_neg (by decide), if_pos h1, if_pos (inb_nI (show i < 8 by omega) (by decide)), nI_clamp (by omega), q, if_pos (eo.mpr h2), p1, bv_s, if_pos (inb_nI (show i < 8 by omega) (by decide)), if_pos (inb_nI (show i < 8 by omega) (by decide)), q', up_eq]
    rfl
theorem e_dep2 {K : Int} {Z : Zt} (hI : InvZ K Z) {i : Nat} {b : Int32} (hi : i < na Z.1) (h1 : ¬ 1 ≤ b) : Cq Z (dc_X9_deposit (nI i) b) (-2) := by
  have hc := hI.1.1
  have h := isI_nI hc hi
  refine Cq.s fun σ hr => ?_
  unfold dc_X9_deposit
  rw [hasI_eq hr.1, bd_s, if_pos h, if_neg (by decide), if_neg h1]
theorem e_dep1 {K : Int} {Z : Zt} (hI : InvZ K Z) {a b : Int32} (h : ¬ isI Z.1 a) : Cq Z (dc_X9_deposit a b) (-1) := by
  refine Cq.s fun σ hr => ?_
  unfold dc_X9_deposit
  rw [hasI_eq hr.1, bd_s, if_neg h, if_pos rfl]
theorem e_sps5 {K : Int} {Z : Zt} (hI : InvZ K Z) {a : Int32} (h : (0 : Int32).toInt ≤ a.toInt ∧ a.toInt ≤ (50 : Int32).toInt) (h2 : Z.1 5 = a) : Cq Z (dc_X9_setPoolShare a) (-5) := by
  have hc := hI.1.1
  have z0 : (0 : Int32).toInt = 0 := rfl
  have z50 : (50 : Int32).toInt = 50 := rfl
  have c1 : ¬ a < 0 := by rw [tlt, z0]; omega
  have c2 : a ≤ 50 := by rw [tle, z50]; omega
  refine Cq.s fun σ hr => ?_
  unfold dc_X9_setPoolShare
  rw [if_neg c1, if_pos c2, hr.1.1.2.2.2.2.2.1, if_pos h2.symm]
theorem e_sps {K : Int} {Z : Zt} (hI : InvZ K Z) {a : Int32} (h : (0 : Int32).toInt ≤ a.toInt ∧ a.toInt ≤ (50 : Int32).toInt) (h2 : ¬ Z.1 5 = a) : Ck K Z (dc_X9_setPoolShare a) (Z.1 5) (upd Z.1 5 a) := by
  have hc := hI.1.1
  have z0 : (0 : Int32).toInt = 0 := rfl
  have z50 : (50 : Int32).toInt = 50 := rfl
  have c1 : ¬ a < 0 := by rw [tlt, z0]; omega
  have c2 : a ≤ 50 := by rw [tle, z50]; omega
  refine Ck.a ?_ (fun σ hr => ?_)
  · refine InvM_low hI.1 (fun k hk => upd_ne (by omega)) (upd_ne (by omega)) (upd_ne (by omega)) (upd_ne (by omega)) ?_ ?_ ?_ (fun k hk => ?_) (fun k q1 q2 => ?_)
    · rw [upd_ne (by omega)]; exact ⟨Int.le_refl _, hc.1.2⟩
    · rw [upd_eq]; omega
    · rw [upd_ne (by omega)]; exact hI.1.2.2.2.1
    · rw [upd_ne (by omega)]; exact hI.1.2.2.2.2.1 k hk
    · unfold na at q1
      rw [upd_ne (by omega)] at q1
      rw [upd_ne (by omega), upd_ne (by omega)]
      exact hI.1.2.2.2.2.2.2.2.2 k q1 q2
  · obtain ⟨σ1, p1, p2, p3⟩ := record_eq hr
    refine ⟨σ1, up σ1 89 0 0 a, p3, p2, ?_, FrJ_up rfl (FrJ.refl 0 σ1), Cla_up89 p2.1⟩
    unfold dc_X9_setPoolShare
    rw [if_neg c1, if_pos c2, hr.1.1.2.2.2.2.2.1, if_neg (fun z => h2 z.symm), p1, bv_s, p2.1.1.2.2.2.2.2.1]
    rfl
theorem e_sps2 {K : Int} {Z : Zt} (hI : InvZ K Z) {a : Int32} (h : ¬ ((0 : Int32).toInt ≤ a.toInt ∧ a.toInt ≤ (50 : Int32).toInt)) : Cq Z (dc_X9_setPoolShare a) (-2) := by
  have hc := hI.1.1
  have z0 : (0 : Int32).toInt = 0 := rfl
  have z50 : (50 : Int32).toInt = 50 := rfl
  refine Cq.s fun σ hr => ?_
  unfold dc_X9_setPoolShare
  by_cases c1 : a < 0
  · rw [if_pos c1]
  · rw [if_neg c1, if_neg (by rw [tle, z50]; rw [tlt, z0] at c1; omega)]
theorem e_sw5 {K : Int} {Z : Zt} (hI : InvZ K Z) {i : Nat} {b : Int32} (hi : i < nb Z.1) (hs : 0 ≤ b.toInt ∧ b.toInt < 4) (hr1 : Z.1 (34 + 11 * i + 3) = 1) (hw : b = if Z.1 (34 + 11 * i + 10) = -5 then Z.1 (34 + 11 * i + 9) else Z.1 (34 + 11 * i + 10)) : Cq Z (dc_X9_switchServicer (nI i) b) (-5) := by
  have hc := hI.1.1
  have h := isL_nI hc hi
  have hi8 := hc.b.2
  have hL := hI.1.2.2.2.2.2.1 i hi
  refine Cq.s fun σ hr => ?_
  have q := hr.1.2.2.1 i (by omega)
  unfold dc_X9_switchServicer
  simp only [jn]
  rw [hasL_eq hr.1, bd_s, if_pos h, if_neg (by decide), xisS_eq, bd_s, if_pos hs, if_neg (by decide), xruns_eq hr.1 hc hi, bd_s, if_pos hr1, if_neg (by decide), if_pos (inb_nI (show i < 10 by omega) (by decide)), nI_clamp (by omega), q.2.2.2.2.2.2.2.2.2.2, q.2.2.2.2.2.2.2.2.2.1]
  by_cases c : Z.1 (34 + 11 * i + 10) = -5
  · rw [if_pos c] at hw
    rw [if_pos c, if_pos hw]
  · rw [if_neg c] at hw
    rw [if_neg c, if_pos hw]
theorem e_sw {K : Int} {Z : Zt} (hI : InvZ K Z) {i : Nat} {b : Int32} (hi : i < nb Z.1) (hs : 0 ≤ b.toInt ∧ b.toInt < 4) (hr1 : Z.1 (34 + 11 * i + 3) = 1) (hw : ¬ b = if Z.1 (34 + 11 * i + 10) = -5 then Z.1 (34 + 11 * i + 9) else Z.1 (34 + 11 * i + 10)) : Ck K Z (dc_X9_switchServicer (nI i) b) (Z.1 (34 + 11 * i + 9)) (upd Z.1 (34 + 11 * i + 10) b) := by
  have hc := hI.1.1
  have h := isL_nI hc hi
  have hi8 := hc.b.2
  have hL := hI.1.2.2.2.2.2.1 i hi
  refine Ck.a ?_ (fun σ hr => ?_)
  · refine InvM_loan hI.1 hi (fun k hk => upd_ne (by omega)) ?_ ?_ ?_
    · unfold LoK at hL ⊢
      rw [upd_ne (show 0 ≠ 34 + 11 * i + 10 by omega), upd_ne (show 34 + 11 * i ≠ 34 + 11 * i + 10 by omega), upd_ne (show 34 + 11 * i + 1 ≠ 34 + 11 * i + 10 by omega), upd_ne (show 34 + 11 * i + 2 ≠ 34 + 11 * i + 10 by omega), upd_ne (show 34 + 11 * i + 3 ≠ 34 + 11 * i + 10 by omega), upd_ne (show 34 + 11 * i + 4 ≠ 34 + 11 * i + 10 by omega), upd_ne (show 34 + 11 * i + 5 ≠ 34 + 11 * i + 10 by omega), upd_ne (show 34 + 11 * i + 6 ≠ 34 + 11 * i + 10 by omega), upd_ne (show 34 + 11 * i + 7 ≠ 34 + 11 * i + 10 by omega), upd_ne (show 34 + 11 * i + 8 ≠ 34 + 11 * i + 10 by omega), upd_ne (show 34 + 11 * i + 9 ≠ 34 + 11 * i + 10 by omega), upd_eq]
      obtain ⟨k1, k2, k3, k4, k5, k6, k7, k8, k9, k10, k11, k12⟩ := hL
      exact ⟨k1, k2, k3, k4, k5, k6, k7, k8, k9, k10, Or.inr ⟨hs.1, by omega⟩, fun z => absurd hr1 z⟩
    · have q := hI.1.2.2.2.2.2.2.2.1 i hi
      unfold SmK at q ⊢
      rw [siN_out (upd_ne (by omega)) (fun k hk => upd_ne (by omega)), upd_ne (by omega), upd_ne (by omega), upd_ne (by omega)]
      exact q
    · rw [upd_ne (by omega)]; exact id
  · obtain ⟨σ1, p1, p2, p3⟩ := record_eq hr
    have q := hr.1.2.2.1 i (by omega)
    have q' := p2.1.2.2.1 i (by omega)
    refine ⟨σ1, up σ1 74 0 i b, p3, p2, ?_, FrJ_up rfl (FrJ.refl 0 σ1), Cla_up74 (by omega) p2.1⟩
    unfold dc_X9_switchServicer
    simp only [jn]
    rw [hasL_eq hr.1, bd_s, if_pos h, if_neg (by decide), xisS_eq, bd_s, if_pos hs, if_neg (by decide), xruns_eq hr.1 hc hi, bd_s, if_pos hr1, if_neg (by decide), if_pos (inb_nI (show i < 10 by omega) (by decide)), nI_clamp (by omega), q.2.2.2.2.2.2.2.2.2.2, q.2.2.2.2.2.2.2.2.2.1, p1, bv_s, up_ne (by decide), q'.2.2.2.2.2.2.2.2.2.1]
    by_cases c : Z.1 (34 + 11 * i + 10) = -5
    · rw [if_pos c] at hw
      rw [if_pos c, if_neg hw]
      rfl
    · rw [if_neg c] at hw
      rw [if_neg c, if_neg hw]
      rfl
theorem e_sw4 {K : Int} {Z : Zt} (hI : InvZ K Z) {i : Nat} {b : Int32} (hi : i < nb Z.1) (hs : 0 ≤ b.toInt ∧ b.toInt < 4) (hr1 : ¬ Z.1 (34 + 11 * i + 3) = 1) : Cq Z (dc_X9_switchServicer (nI i) b) (-4) := by
  have hc := hI.1.1
  have h := isL_nI hc hi
  have hi8 := hc.b.2
  have hL := hI.1.2.2.2.2.2.1 i hi
  refine Cq.s fun σ hr => ?_
  unfold dc_X9_switchServicer
  rw [hasL_eq hr.1, bd_s, if_pos h, if_neg (by decide), xisS_eq, bd_s, if_pos hs, if_neg (by decide), xruns_eq hr.1 hc hi, bd_s, if_neg hr1, if_pos rfl]
theorem e_sw1 {K : Int} {Z : Zt} (hI : InvZ K Z) {i : Nat} {b : Int32} (hi : i < nb Z.1) (hs : ¬ (0 ≤ b.toInt ∧ b.toInt < 4)) : Cq Z (dc_X9_switchServicer (nI i) b) (-1) := by
  have hc := hI.1.1
  have h := isL_nI hc hi
  have hi8 := hc.b.2
  have hL := hI.1.2.2.2.2.2.1 i hi
  refine Cq.s fun σ hr => ?_
  unfold dc_X9_switchServicer
  rw [hasL_eq hr.1, bd_s, if_pos h, if_neg (by decide), xisS_eq, bd_s, if_neg hs, if_pos rfl]
theorem e_cure {K : Int} {Z : Zt} (hI : InvZ K Z) {i : Nat} {b : Int32} (hi : i < nb Z.1) (hs : (1 : Int32).toInt ≤ b.toInt ∧ b.toInt ≤ (36 : Int32).toInt) (hr1 : Z.1 (34 + 11 * i + 3) = 1 ∧ ¬ Z.1 (34 + 11 * i + 8) = 0 ∧ Z.1 (34 + 11 * i + 6) ≤ 0) : Ck K Z (dc_X9_cure (nI i) b) ((Z.1 (34 + 11 * i + 4) + b - 1) / b) (upd (upd (upd Z.1 (34 + 11 * i + 7) 0) (34 + 11 * i + 8) 0) (34 + 11 * i + 5) ((Z.1 (34 + 11 * i + 4) + b - 1) / b)) := by
  have hc := hI.1.1
  have h := isL_nI hc hi
  have hi8 := hc.b.2
  have hL := hI.1.2.2.2.2.2.1 i hi
  have z1 : (1 : Int32).toInt = 1 := rfl
  have z36 : (36 : Int32).toInt = 36 := rfl
  obtain ⟨g1, g2, g3⟩ := hr1
  have hu := updiv (p := Z.1 (34 + 11 * i + 4)) (q := b) hL.2.2.2.2.1.1 hL.2.2.2.2.1.2 (by omega) (by omega)
  refine Ck.a ?_ (fun σ hr => ?_)
  · refine InvM_loan hI.1 hi (fun k hk => by rw [upd_ne (by omega), upd_ne (by omega), upd_ne (by omega)]) ?_ ?_ ?_
    · have g : ∀ k, k ≠ 34 + 11 * i + 7 → k ≠ 34 + 11 * i + 8 → k ≠ 34 + 11 * i + 5 → upd (upd (upd Z.1 (34 + 11 * i + 7) 0) (34 + 11 * i + 8) 0) (34 + 11 * i + 5) ((Z.1 (34 + 11 * i + 4) + b - 1) / b) k = Z.1 k := fun k q1 q2 q3 => by rw [upd_ne q3, upd_ne q2, upd_ne q1]
      unfold LoK at hL ⊢
      rw [g 0 (by omega) (by omega) (by omega), g (34 + 11 * i) (by omega) (by omega) (by omega), g (34 + 11 * i + 1) (by omega) (by omega) (by omega), g (34 + 11 * i + 2) (by omega) (by omega) (by omega), g (34 + 11 * i + 3) (by omega) (by omega) (by omega), g (34 + 11 * i + 4) (by omega) (by omega) (by omega), upd_eq, g (34 + 11 * i + 6) (by omega) (by omega) (by omega), upd_ne (show 34 + 11 * i + 7 ≠ 34 + 11 * i + 5 by omega), upd_ne (show 34 + 11 * i + 7 ≠ 34 + 11 * i + 8 by omega), upd_eq, upd_ne (show 34 + 11 * i + 8 ≠ 34 + 11 * i + 5 by omega), upd_eq, g (34 + 11 * i + 9) (by omega) (by omega) (by omega), g (34 + 11 * i + 10) (by omega) (by omega) (by omega)]
      obtain ⟨k1, k2, k3, k4, k5, k6, k7, k8, k9, k10, k11, k12⟩ := hL
      exact ⟨k1, k2, k3, k4, k5, fun _ => hu, k7, ⟨by decide, k5.1⟩, ⟨by decide, hI.1.2.1.1⟩, k10, k11, fun z => absurd g1 z⟩
    · have q := hI.1.2.2.2.2.2.2.2.1 i hi
      unfold SmK at q ⊢
      rw [siN_out (m := Z.1) (by rw [upd_ne (by omega), upd_ne (by omega), upd_ne (by omega)]) (fun k hk => by rw [upd_ne (by omega), upd_ne (by omega), upd_ne (by omega)])]
      rw [upd_ne (by omega), upd_ne (by omega), upd_ne (by omega), upd_ne (by omega), upd_ne (by omega), upd_ne (by omega), upd_ne (by omega), upd_ne (by omega), upd_ne (by omega)]
      exact q
    · rw [upd_ne (by omega), upd_ne (by omega), upd_ne (by omega)]; exact id
  · obtain ⟨σ1, p1, p2, p3⟩ := record_eq hr
    have q := hr.1.2.2.1 i (by omega)
    have q' := p2.1.2.2.1 i (by omega)
    refine ⟨σ1, up (up (up σ1 71 0 i 0) 72 0 i 0) 69 0 i ((Z.1 (34 + 11 * i + 4) + b - 1) / b), p3, p2, ?_, FrJ_up rfl (FrJ_up rfl (FrJ_up rfl (FrJ.refl 0 σ1))), Cla_up69 (by omega) (Cla_up72 (by omega) (Cla_up71 (by omega) p2.1))⟩
    unfold dc_X9_cure
    simp only [lt]
    rw [hasL_eq hr.1, bd_s, if_pos h, if_neg (by decide), isLM_eq, bd_s, rng, if_pos hs, if_neg (by decide), if_pos (inb_nI (show i < 10 by omega) (by decide)), nI_clamp (by omega), q.2.2.2.1, if_pos g1, q.2.2.2.2.2.2.2.2.1, if_neg g2, q.2.2.2.2.2.2.1, if_pos g3, p1, bv_s, up_ne (by decide), up_ne (by decide), q'.2.2.2.2.1, cdiv_eq (by omega), bd_s, up_eq]
    rfl
theorem e_cure4 {K : Int} {Z : Zt} (hI : InvZ K Z) {i : Nat} {b : Int32} (hi : i < nb Z.1) (hs : (1 : Int32).toInt ≤ b.toInt ∧ b.toInt ≤ (36 : Int32).toInt) (hr1 : ¬ (Z.1 (34 + 11 * i + 3) = 1 ∧ ¬ Z.1 (34 + 11 * i + 8) = 0 ∧ Z.1 (34 + 11 * i + 6) ≤ 0)) : Cq Z (dc_X9_cure (nI i) b) (-4) := by
  have hc := hI.1.1
  have h := isL_nI hc hi
  have hi8 := hc.b.2
  have hL := hI.1.2.2.2.2.2.1 i hi
  have z1 : (1 : Int32).toInt = 1 := rfl
  have z36 : (36 : Int32).toInt = 36 := rfl
  refine Cq.s fun σ hr => ?_
  have q := hr.1.2.2.1 i (by omega)
  unfold dc_X9_cure
  rw [hasL_eq hr.1, bd_s, if_pos h, if_neg (by decide), isLM_eq, bd_s, rng, if_pos hs, if_neg (by decide), if_pos (inb_nI (show i < 10 by omega) (by decide)), nI_clamp (by omega), q.2.2.2.1, q.2.2.2.2.2.2.2.2.1, q.2.2.2.2.2.2.1]
  by_cases g1 : Z.1 (34 + 11 * i + 3) = 1
  · rw [if_pos g1]
    by_cases g2 : Z.1 (34 + 11 * i + 8) = 0
    · rw [if_pos g2]
    · rw [if_neg g2, if_neg (fun g3 => hr1 ⟨g1, g2, g3⟩)]
  · rw [if_neg g1]
theorem e_cure2 {K : Int} {Z : Zt} (hI : InvZ K Z) {i : Nat} {b : Int32} (hi : i < nb Z.1) (hs : ¬ ((1 : Int32).toInt ≤ b.toInt ∧ b.toInt ≤ (36 : Int32).toInt)) : Cq Z (dc_X9_cure (nI i) b) (-2) := by
  have hc := hI.1.1
  have h := isL_nI hc hi
  have hi8 := hc.b.2
  have hL := hI.1.2.2.2.2.2.1 i hi
  have z1 : (1 : Int32).toInt = 1 := rfl
  have z36 : (36 : Int32).toInt = 36 := rfl
  refine Cq.s fun σ hr => ?_
  unfold dc_X9_cure
  rw [hasL_eq hr.1, bd_s, if_pos h, if_neg (by decide), isLM_eq, bd_s, rng, if_neg hs, if_pos rfl]
theorem e_open {K : Int} {Z : Zt} (hI : InvZ K Z) {a r t : Int32} (ha : (100 : Int32).toInt ≤ a.toInt ∧ a.toInt ≤ (99999 : Int32).toInt) (hr1 : (0 : Int32).toInt ≤ r.toInt ∧ r.toInt ≤ (50 : Int32).toInt) (ht : (1 : Int32).toInt ≤ t.toInt ∧ t.toInt ≤ (36 : Int32).toInt) (h10 : ¬ nb Z.1 = 10) : Ck K Z (dc_X9_openLoan a r t) (Z.1 2) (opn Z.1 a r t) := by
  have hc := hI.1.1
  obtain ⟨eb, hb10⟩ := hc.b
  have z100 : (100 : Int32).toInt = 100 := rfl
  have z9 : (99999 : Int32).toInt = 99999 := rfl
  have z0 : (0 : Int32).toInt = 0 := rfl
  have z50 : (50 : Int32).toInt = 50 := rfl
  have z1 : (1 : Int32).toInt = 1 := rfl
  have z36 : (36 : Int32).toInt = 36 := rfl
  refine Ck.a (InvM_opn hI.1 (by omega) (by omega) (by omega) (by omega)) (fun σ hr => ?_)
  · obtain ⟨σ1, p1, p2, p3⟩ := record_eq hr
    have q1 : σ1.1 85 0 0 = nI (nb Z.1) := p2.1.1.2.2.1.trans eb
    refine ⟨σ1, up (up (up (up (up (up (up (up (up (up (up (up σ1 64 0 (nb Z.1) 0) 65 0 (nb Z.1) a) 66 0 (nb Z.1) r) 67 0 (nb Z.1) t) 68 0 (nb Z.1) 0) 69 0 (nb Z.1) (-5)) 70 0 (nb Z.1) 0) 71 0 (nb Z.1) 0) 72 0 (nb Z.1) 0) 73 0 (nb Z.1) 0) 74 0 (nb Z.1) (-5)) 85 0 0 (Z.1 2 + 1), p3, p2, ?_, FrJ_up rfl (FrJ_up rfl (FrJ_up rfl (FrJ_up rfl (FrJ_up rfl (FrJ_up rfl (FrJ_up rfl (FrJ_up rfl (FrJ_up rfl (FrJ_up rfl (FrJ_up rfl (FrJ_up rfl (FrJ.refl 0 σ1)))))))))))), ?_⟩
    · unfold dc_X9_openLoan dc_X4_open
      simp only [lt]
      rw [if_neg (by rw [tlt]; omega), if_neg (by rw [tlt]; omega), if_neg (by rw [tlt]; omega), if_neg (by rw [tlt]; omega), isLM_eq, bd_s, rng, if_pos ht, if_neg (by decide), hr.1.1.2.2.1, eb, if_pos (by rw [show (10 : Int32) = nI 10 from rfl, nI_ltI (by omega) (by omega)]; omega), p1, bv_s, q1, if_pos (inb_nI (show nb Z.1 < 10 by omega) (by decide)), nI_clamp (by omega), bv_s]
      simp (disch := decide) only [up_ne]
      rw [q1]
    · have c4 := Cla_up85 (v := Z.1 2 + 1) (Cla_up74 (v := -5) (l0 := nb Z.1) (by omega) (Cla_up73 (v := 0) (l0 := nb Z.1) (by omega) (Cla_up72 (v := 0) (l0 := nb Z.1) (by omega) (Cla_up71 (v := 0) (l0 := nb Z.1) (by omega) (Cla_up70 (v := 0) (l0 := nb Z.1) (by omega) (Cla_up69 (v := -5) (l0 := nb Z.1) (by omega) (Cla_up68 (v := 0) (l0 := nb Z.1) (by omega) (Cla_up67 (v := t) (l0 := nb Z.1) (by omega) (Cla_up66 (v := r) (l0 := nb Z.1) (by omega) (Cla_up65 (v := a) (l0 := nb Z.1) (by omega) (Cla_up64 (v := 0) (l0 := nb Z.1) (by omega) p2.1)))))))))))
      have e : (upd (upd (upd (upd (upd (upd (upd (upd (upd (upd (upd (upd (recZ Z).1 (34 + 11 * nb Z.1 + 3) 0) (34 + 11 * nb Z.1) a) (34 + 11 * nb Z.1 + 1) r) (34 + 11 * nb Z.1 + 2) t) (34 + 11 * nb Z.1 + 4) 0) (34 + 11 * nb Z.1 + 5) (-5)) (34 + 11 * nb Z.1 + 6) 0) (34 + 11 * nb Z.1 + 7) 0) (34 + 11 * nb Z.1 + 8) 0) (34 + 11 * nb Z.1 + 9) 0) (34 + 11 * nb Z.1 + 10) (-5)) 2 (Z.1 2 + 1)) = opn Z.1 a r t := by
        funext k
        simp only [upd, opn, recZ]
        by_cases k2 : k = 2
        · subst k2
          simp (disch := omega) only [if_pos, if_neg]
        · by_cases kin : 34 + 11 * nb Z.1 ≤ k ∧ k < 45 + 11 * nb Z.1
          · obtain ⟨w, hw, rfl⟩ : ∃ w, w < 11 ∧ k = 34 + 11 * nb Z.1 + w := ⟨k - (34 + 11 * nb Z.1), by omega, by omega⟩
            rcases (show w = 0 ∨ w = 1 ∨ w = 2 ∨ w = 3 ∨ w = 4 ∨ w = 5 ∨ w = 6 ∨ w = 7 ∨ w = 8 ∨ w = 9 ∨ w = 10 by omega) with rfl | rfl | rfl | rfl | rfl | rfl | rfl | rfl | rfl | rfl | rfl <;> simp (disch := omega) only [if_pos, if_neg, if_true, true_or, or_true]
          · simp (disch := omega) only [if_neg]
      rw [← e]
      exact c4
theorem e_open2 {K : Int} {Z : Zt} (hI : InvZ K Z) {a r t : Int32} (ha : ¬ ((100 : Int32).toInt ≤ a.toInt ∧ a.toInt ≤ (99999 : Int32).toInt)) : Cq Z (dc_X9_openLoan a r t) (-2) := by
  have hc := hI.1.1
  obtain ⟨eb, hb10⟩ := hc.b
  have z100 : (100 : Int32).toInt = 100 := rfl
  have z9 : (99999 : Int32).toInt = 99999 := rfl
  have z0 : (0 : Int32).toInt = 0 := rfl
  have z50 : (50 : Int32).toInt = 50 := rfl
  have z1 : (1 : Int32).toInt = 1 := rfl
  have z36 : (36 : Int32).toInt = 36 := rfl
  refine Cq.s fun σ hr => ?_
  unfold dc_X9_openLoan
  by_cases c : a < 100
  · rw [if_pos c]
  · rw [if_neg c, if_pos (by rw [tlt]; rw [tlt] at c; omega)]
theorem e_sn2 {K : Int} {Z : Zt} (hI : InvZ K Z) {n i s l : Nat} {p : Int32} (hn : n < nc Z.1) (hi : i < na Z.1) (hs : s < na Z.1) (es : Z.1 (144 + 7 * n) = nI s) (hl : l < nb Z.1) (el : Z.1 (144 + 7 * n + 1) = nI l) (hp : (0 : Int32).toInt ≤ p.toInt ∧ p.toInt ≤ (99999 : Int32).toInt) (hne : s = i) : Cq Z (dc_X9_sellNote (nI n) (nI i) p) (-2) := by
  have hc := hI.1.1
  have h := isN_nI hc hn
  have hi0 := isI_nI hc hi
  have ha8 := hc.a.2
  obtain ⟨u1, u2, u3, u4, u5⟩ := hI.1.2.2.2.2.2.2.1 n hn
  have cs := hI.1.2.2.2.2.1 s (by omega)
  clear u3 u4 u5
  have pc : ∀ σ, RCl σ Z → _ := fun σ hr => csn_pre (p := p) hr hc hn hi hs hl h hi0 es el
  refine Cq.s fun σ hr => ?_
  rw [pc σ hr, if_neg (not_not_intro hp), if_pos (by rw [hne])]
theorem e_sn {K : Int} {Z : Zt} (hI : InvZ K Z) {n i s l : Nat} {p : Int32} (hn : n < nc Z.1) (hi : i < na Z.1) (hs : s < na Z.1) (es : Z.1 (144 + 7 * n) = nI s) (hl : l < nb Z.1) (el : Z.1 (144 + 7 * n + 1) = nI l) (hp : (0 : Int32).toInt ≤ p.toInt ∧ p.toInt ≤ (99999 : Int32).toInt) (hne : ¬ s = i) (hru : Z.1 (34 + 11 * l + 3) = 1) (hca : p ≤ Z.1 (10 + 3 * i)) (h2 : (Z.1 (10 + 3 * s)).toInt + p.toInt ≤ 2147483647) : Ck K Z (dc_X9_sellNote (nI n) (nI i) p) (Z.1 (144 + 7 * n + 3)) (sln Z.1 n s i p) := by
  have hc := hI.1.1
  have h := isN_nI hc hn
  have hi0 := isI_nI hc hi
  have ha8 := hc.a.2
  obtain ⟨u1, u2, u3, u4, u5⟩ := hI.1.2.2.2.2.2.2.1 n hn
  have cs := hI.1.2.2.2.2.1 s (by omega)
  clear u3 u4 u5
  have pc : ∀ σ, RCl σ Z → _ := fun σ hr => csn_pre (p := p) hr hc hn hi hs hl h hi0 es el
  have hne2 : ¬ nI s = nI i := by rw [nI_eq (by omega) (by omega)]; exact hne
  have eo := room_i (y := p) cs
  refine Ck.a (InvM_sln hI.1 hn hi hs hne hp.1 ((tle _ _).mp hca) h2) (fun σ hr => ?_)
  · obtain ⟨σ1, p1, p2, p3⟩ := record_eq hr
    obtain ⟨τ, t1, t2, t3⟩ := sln_c (p := p) hc p1 p2.1 hn hi hs hne
    refine ⟨σ1, τ, p3, p2, ?_, t2, t3⟩
    rw [pc σ hr, if_neg (not_not_intro hp), if_neg hne2, if_neg (not_not_intro hru), if_pos hca, if_pos (eo.mpr h2)]
    exact t1
theorem e_sn4c {K : Int} {Z : Zt} (hI : InvZ K Z) {n i s l : Nat} {p : Int32} (hn : n < nc Z.1) (hi : i < na Z.1) (hs : s < na Z.1) (es : Z.1 (144 + 7 * n) = nI s) (hl : l < nb Z.1) (el : Z.1 (144 + 7 * n + 1) = nI l) (hp : (0 : Int32).toInt ≤ p.toInt ∧ p.toInt ≤ (99999 : Int32).toInt) (hne : ¬ s = i) (hru : Z.1 (34 + 11 * l + 3) = 1) (hca : ¬ p ≤ Z.1 (10 + 3 * i)) : Cq Z (dc_X9_sellNote (nI n) (nI i) p) (-4) := by
  have hc := hI.1.1
  have h := isN_nI hc hn
  have hi0 := isI_nI hc hi
  have ha8 := hc.a.2
  obtain ⟨u1, u2, u3, u4, u5⟩ := hI.1.2.2.2.2.2.2.1 n hn
  have cs := hI.1.2.2.2.2.1 s (by omega)
  clear u3 u4 u5
  have pc : ∀ σ, RCl σ Z → _ := fun σ hr => csn_pre (p := p) hr hc hn hi hs hl h hi0 es el
  have hne2 : ¬ nI s = nI i := by rw [nI_eq (by omega) (by omega)]; exact hne
  refine Cq.s fun σ hr => ?_
  rw [pc σ hr, if_neg (not_not_intro hp), if_neg hne2, if_neg (not_not_intro hru), if_neg hca]
theorem e_sn4r {K : Int} {Z : Zt} (hI : InvZ K Z) {n i s l : Nat} {p : Int32} (hn : n < nc Z.1) (hi : i < na Z.1) (hs : s < na Z.1) (es : Z.1 (144 + 7 * n) = nI s) (hl : l < nb Z.1) (el : Z.1 (144 + 7 * n + 1) = nI l) (hp : (0 : Int32).toInt ≤ p.toInt ∧ p.toInt ≤ (99999 : Int32).toInt) (hne : ¬ s = i) (hru : ¬ Z.1 (34 + 11 * l + 3) = 1) : Cq Z (dc_X9_sellNote (nI n) (nI i) p) (-4) := by
  have hc := hI.1.1
  have h := isN_nI hc hn
  have hi0 := isI_nI hc hi
  have ha8 := hc.a.2
  obtain ⟨u1, u2, u3, u4, u5⟩ := hI.1.2.2.2.2.2.2.1 n hn
  have cs := hI.1.2.2.2.2.1 s (by omega)
  clear u3 u4 u5
  have pc : ∀ σ, RCl σ Z → _ := fun σ hr => csn_pre (p := p) hr hc hn hi hs hl h hi0 es el
  have hne2 : ¬ nI s = nI i := by rw [nI_eq (by omega) (by omega)]; exact hne
  refine Cq.s fun σ hr => ?_
  rw [pc σ hr, if_neg (not_not_intro hp), if_neg hne2, if_pos hru]
theorem e_sn2p {K : Int} {Z : Zt} (hI : InvZ K Z) {n i s l : Nat} {p : Int32} (hn : n < nc Z.1) (hi : i < na Z.1) (hs : s < na Z.1) (es : Z.1 (144 + 7 * n) = nI s) (hl : l < nb Z.1) (el : Z.1 (144 + 7 * n + 1) = nI l) (hp : ¬ ((0 : Int32).toInt ≤ p.toInt ∧ p.toInt ≤ (99999 : Int32).toInt)) : Cq Z (dc_X9_sellNote (nI n) (nI i) p) (-2) := by
  have hc := hI.1.1
  have h := isN_nI hc hn
  have hi0 := isI_nI hc hi
  have ha8 := hc.a.2
  obtain ⟨u1, u2, u3, u4, u5⟩ := hI.1.2.2.2.2.2.2.1 n hn
  have cs := hI.1.2.2.2.2.1 s (by omega)
  clear u3 u4 u5
  have pc : ∀ σ, RCl σ Z → _ := fun σ hr => csn_pre (p := p) hr hc hn hi hs hl h hi0 es el
  refine Cq.s fun σ hr => ?_
  rw [pc σ hr, if_pos hp]
theorem e_sn1i {K : Int} {Z : Zt} (hI : InvZ K Z) {n : Nat} {b p : Int32} (hn : n < nc Z.1) (hi0 : ¬ isI Z.1 b) : Cq Z (dc_X9_sellNote (nI n) b p) (-1) := by
  have hc := hI.1.1
  have h := isN_nI hc hn
  refine Cq.s fun σ hr => ?_
  unfold dc_X9_sellNote
  rw [hasN_eq hr.1, bd_s, if_pos h, if_neg (by decide), hasI_eq hr.1, bd_s, if_neg hi0, if_pos rfl]
theorem e_sn1n {K : Int} {Z : Zt} (hI : InvZ K Z) {a b p : Int32} (h : ¬ isN Z.1 a) : Cq Z (dc_X9_sellNote a b p) (-1) := by
  have hc := hI.1.1
  refine Cq.s fun σ hr => ?_
  unfold dc_X9_sellNote
  rw [hasN_eq hr.1, bd_s, if_neg h, if_pos rfl]
theorem e_pass {K : Int} {Z : Zt} (hI : InvZ K Z) {n : Nat} (h1 : 1 ≤ n) (hn : n ≤ 24) (h2 : (Z.1 0).toInt + n ≤ 240) : Ck K Z (dc_X9_pass (nI n)) (xinA (mont Z.1 n)) (mont Z.1 n) := by
  have hc := hI.1.1
  have z1 : (1 : Int32).toInt = 1 := rfl
  have z24 : (24 : Int32).toInt = 24 := rfl
  have z240 : (240 : Int32).toInt = 240 := rfl
  have ht := hI.1.2.1
  have en : (nI n).toInt = n := nI_toInt (by omega)
  have h : (1 : Int32).toInt ≤ (nI n).toInt ∧ (nI n).toInt ≤ (24 : Int32).toInt := by omega
  have es : ((240 : Int32) - Z.1 0).toInt = 240 - (Z.1 0).toInt := by
    rw [tsub] <;> rw [z240] <;> omega
  have ea : (Z.1 0 + nI n).toInt = (Z.1 0).toInt + n := by
    rw [tadd] <;> rw [en] <;> omega
  refine Ck.a (InvM_mont hI.1 n h2) (fun σ hr => ?_)
  · obtain ⟨σ1, p1, p2, p3⟩ := record_eq hr
    obtain ⟨τ, t1, t2, t3⟩ := pass_c hn hc p2.1
    refine ⟨σ1, τ, p3, p2, ?_, t2, t3⟩
    unfold dc_X9_pass
    rw [if_neg (by rw [tlt]; omega), if_pos (by rw [tle]; omega), hr.1.1.1, if_pos (by rw [tle, es, en]; omega), p1, bv_s]
    exact t1
theorem e_pass4 {K : Int} {Z : Zt} (hI : InvZ K Z) {n : Nat} (h1 : 1 ≤ n) (hn : n ≤ 24) (h2 : ¬ (Z.1 0).toInt + n ≤ 240) : Cq Z (dc_X9_pass (nI n)) (-4) := by
  have hc := hI.1.1
  have z1 : (1 : Int32).toInt = 1 := rfl
  have z24 : (24 : Int32).toInt = 24 := rfl
  have z240 : (240 : Int32).toInt = 240 := rfl
  have ht := hI.1.2.1
  have en : (nI n).toInt = n := nI_toInt (by omega)
  have h : (1 : Int32).toInt ≤ (nI n).toInt ∧ (nI n).toInt ≤ (24 : Int32).toInt := by omega
  have es : ((240 : Int32) - Z.1 0).toInt = 240 - (Z.1 0).toInt := by
    rw [tsub] <;> rw [z240] <;> omega
  have ea : (Z.1 0 + nI n).toInt = (Z.1 0).toInt + n := by
    rw [tadd] <;> rw [en] <;> omega
  refine Cq.s fun σ hr => ?_
  unfold dc_X9_pass
  rw [if_neg (by rw [tlt]; omega), if_pos (by rw [tle]; omega), hr.1.1.1, if_neg (by rw [tle, es, en]; omega)]
theorem e_pass2 {K : Int} {Z : Zt} (hI : InvZ K Z) {a : Int32} (h : ¬ ((1 : Int32).toInt ≤ a.toInt ∧ a.toInt ≤ (24 : Int32).toInt)) : Cq Z (dc_X9_pass a) (-2) := by
  have hc := hI.1.1
  have z1 : (1 : Int32).toInt = 1 := rfl
  have z24 : (24 : Int32).toInt = 24 := rfl
  have z240 : (240 : Int32).toInt = 240 := rfl
  have ht := hI.1.2.1
  refine Cq.s fun σ hr => ?_
  unfold dc_X9_pass
  by_cases c : a < 1
  · rw [if_pos c]
  · rw [if_neg c, if_neg (by rw [tle]; rw [tlt] at c; omega)]
theorem e_fund {K : Int} {Z : Zt} (hI : InvZ K Z) {i l : Nat} {a3 k c : Int32} (hk : k = (if a3 = 0 then 0 else 1)) (h01 : k = 0 ∨ k = 1) (h0 : fe Z.1 (nI i) (nI l) c = 0) (hf : FeOk Z.1 i l c) : Ck K Z (dc_X9_fund (nI i) (nI l) a3 c) (msn (nt Z.1 i l k c) l) (adn Z.1 i l k c) := by
  have hc := hI.1.1
  have pc : ∀ σ, dc_X9_fund (nI i) (nI l) a3 c σ = (bd (dc_X5_fundingError 0 (nI i) (nI l) c σ) fun r1 σ2 => (if r1 = 0 then (bv (dc_X2_record 0 σ2) fun σ4 => (bv (dc_X5_addNote 0 (nI i) (nI l) k c σ4) fun σ8 => (bd (dc_X5_missing 0 (nI l) σ8) fun r9 σ10 => some (r9, σ10)))) else some (r1, σ2))) := fun σ => by
    unfold dc_X9_fund
    simp only [jn]
    by_cases e : a3 = 0
    · rw [if_pos e] at hk; subst hk; simp only [e, if_true]
    · rw [if_neg e] at hk; subst hk; simp only [e, if_false]
  have hb := hc.b.2
  obtain ⟨f1, f2, f3, f4, f5, f6, f7⟩ := id hf
  have hA := InvM_adn hI.1 hf h01
  refine Ck.a (hA) (fun σ hr => ?_)
  · obtain ⟨σ1, p1, p2, p3⟩ := record_eq hr
    obtain ⟨τ, t1, t2, t3⟩ := adn_c (k := k) hI.1 p2.1 hf h01 h0
    refine ⟨σ1, τ, p3, p2, ?_, t2, t3⟩
    have hnb : l < nb (adn Z.1 i l k c) := by
      have e : nb (adn Z.1 i l k c) = nb Z.1 := by
        unfold adn
        by_cases hz : msn (nt Z.1 i l k c) l = 0
        · rw [if_pos hz]
          unfold nb stt
          rw [upd_ne (by omega), upd_ne (by omega), upd_ne (by omega)]
          exact (nt_hi hc hf).2.2.2.1
        · rw [if_neg hz]; exact (nt_hi hc hf).2.2.2.1
      rw [e]; exact f2
    rw [pc, fe_c hI.1 hr.1, bd_s, h0, if_pos rfl, p1, bv_s]
    have t1' : dc_X5_addNote 0 (nI i) (nI l) k c σ1 = some τ := t1
    rw [t1', bv_s, xmsn_eq t3 hA.1 hA.kin hnb, bd_s, msn_adn]
theorem e_fund0 {K : Int} {Z : Zt} (hI : InvZ K Z) {a1 a2 a3 c : Int32} (h0 : ¬ fe Z.1 a1 a2 c = 0) : Cq Z (dc_X9_fund a1 a2 a3 c) (fe Z.1 a1 a2 c) := by
  obtain ⟨k, hk, h01⟩ : ∃ k : Int32, k = (if a3 = 0 then 0 else 1) ∧ (k = 0 ∨ k = 1) := ⟨_, rfl, by by_cases e : a3 = 0 <;> simp [e]⟩
  have hc := hI.1.1
  have pc : ∀ σ, dc_X9_fund a1 a2 a3 c σ = (bd (dc_X5_fundingError 0 a1 a2 c σ) fun r1 σ2 => (if r1 = 0 then (bv (dc_X2_record 0 σ2) fun σ4 => (bv (dc_X5_addNote 0 a1 a2 k c σ4) fun σ8 => (bd (dc_X5_missing 0 a2 σ8) fun r9 σ10 => some (r9, σ10)))) else some (r1, σ2))) := fun σ => by
    unfold dc_X9_fund
    simp only [jn]
    by_cases e : a3 = 0
    · rw [if_pos e] at hk; subst hk; simp only [e, if_true]
    · rw [if_neg e] at hk; subst hk; simp only [e, if_false]
  refine Cq.s fun σ hr => ?_
  rw [pc, fe_c hI.1 hr.1, bd_s, if_neg h0]
theorem e_split {K : Int} {Z : Zt} (hI : InvZ K Z) {l : Nat} {c w : Int32} (hl : l < nb Z.1) (hp : (1 : Int32).toInt ≤ c.toInt ∧ c.toInt ≤ (199999 : Int32).toInt) (hw : (0 : Int32).toInt ≤ w.toInt ∧ w.toInt ≤ (5 : Int32).toInt) (ho : pOk Z.1 l c) : Cq Z (dc_X9_split (nI l) c w) (spl Z.1 l c w) := by
  have hc := hI.1.1
  have h := isL_nI hc hl
  have z1 : (1 : Int32).toInt = 1 := rfl
  have z9 : (199999 : Int32).toInt = 199999 := rfl
  have z0 : (0 : Int32).toInt = 0 := rfl
  have z5 : (5 : Int32).toInt = 5 := rfl
  have hp' : 0 ≤ c.toInt ∧ c.toInt ≤ 199999 := by omega
  refine Cq.f fun σ hr => ?_
  obtain ⟨τ, t1, t2, t3⟩ := areOf_eq hI.1 hr.1 hl c
  obtain ⟨p0, p1, p2, p3, p4, p5⟩ := t3 ho
  refine ⟨τ, ?_, t2⟩
  unfold dc_X9_split
  rw [hasL_eq hr.1, bd_s, if_pos h, if_neg (by decide), isPm_eq, bd_s, rng, if_pos hp, if_neg (by decide), if_neg (by rw [tlt]; omega), if_pos (by rw [tle]; omega), t1, bd_s, if_pos ho, if_neg (by decide), p0, p1, p2, p3, p4, p5]
  unfold spl
  repeat (first | rfl | refine ite_q ?_)
theorem e_split4 {K : Int} {Z : Zt} (hI : InvZ K Z) {l : Nat} {c w : Int32} (hl : l < nb Z.1) (hp : (1 : Int32).toInt ≤ c.toInt ∧ c.toInt ≤ (199999 : Int32).toInt) (hw : (0 : Int32).toInt ≤ w.toInt ∧ w.toInt ≤ (5 : Int32).toInt) (ho : ¬ pOk Z.1 l c) : Cq Z (dc_X9_split (nI l) c w) (-4) := by
  have hc := hI.1.1
  have h := isL_nI hc hl
  have z1 : (1 : Int32).toInt = 1 := rfl
  have z9 : (199999 : Int32).toInt = 199999 := rfl
  have z0 : (0 : Int32).toInt = 0 := rfl
  have z5 : (5 : Int32).toInt = 5 := rfl
  have hp' : 0 ≤ c.toInt ∧ c.toInt ≤ 199999 := by omega
  refine Cq.f fun σ hr => ?_
  obtain ⟨τ, t1, t2, t3⟩ := areOf_eq hI.1 hr.1 hl c
  refine ⟨τ, ?_, t2⟩
  unfold dc_X9_split
  rw [hasL_eq hr.1, bd_s, if_pos h, if_neg (by decide), isPm_eq, bd_s, rng, if_pos hp, if_neg (by decide), if_neg (by rw [tlt]; omega), if_pos (by rw [tle]; omega), t1, bd_s, if_neg ho, if_pos rfl]
theorem e_give {K : Int} {Z : Zt} (hI : InvZ K Z) {l : Nat} (hl : l < nb Z.1) (hs : Z.1 (34 + 11 * l + 3) = 0) (hf : Fit Z.1 (fun n => nil n + wt Z.1 (nI l) 2 n)) : Ck K Z (dc_X9_giveUp (nI l)) (pr Z.1 (nI l) 2) (endM (coJ Z.1 nil (wt Z.1 (nI l) 2) (nc Z.1)) l 4) := by
  have hc := hI.1.1
  have h := isL_nI hc hl
  have hb := hc.b.2
  have hw := wt_ok hI.1.pb (nI l) 2
  have hg : ∀ n, n < nc Z.1 → 0 ≤ (nil n + wt Z.1 (nI l) 2 n).toInt ∧ (nil n + wt Z.1 (nI l) 2 n).toInt ≤ 2000000 := fun n _ => by
    show 0 ≤ ((0 : Int32) + wt Z.1 (nI l) 2 n).toInt ∧ ((0 : Int32) + wt Z.1 (nI l) 2 n).toInt ≤ 2000000
    rw [Int32.zero_add]; have := hw n; omega
  have pc : ∀ σ, RCl σ Z → ∃ (σ0 : Sto) (r : Int32), FrW 288 σ σ0 ∧ PA σ0 nil (wt Z.1 (nI l) 2) (wt Z.1 (nI l) 2) ∧ ((r = 1 ∧ Fit Z.1 (fun n => nil n + wt Z.1 (nI l) 2 n)) ∨ (r = 0 ∧ ¬ Fit Z.1 (fun n => nil n + wt Z.1 (nI l) 2 n))) ∧ dc_X9_giveUp (nI l) σ = (if r = 0 then some ((-3 : Int32), σ0) else (bv (dc_X2_record 0 σ0) fun σ13 => (bv (dc_X8_carryOut 0 σ13) fun σ15 => (bv (dc_X4_end 0 l (4 : Int32) σ15) fun σ18 => some (pr Z.1 (nI l) 0 + pr Z.1 (nI l) 1, σ18))))) := fun σ hr => by
    obtain ⟨σ0, a1, a2, a3⟩ := give_c hr.1 hc hI.1.kin (nI l)
    obtain ⟨r, b1, b2⟩ := fits_c (a2.cla hr.1) hc a3 hg
    have q := hr.1.2.2.1 l (by omega)
    refine ⟨σ0, r, a2, a3, b2, ?_⟩
    unfold dc_X9_giveUp
    rw [hasL_eq hr.1, bd_s, if_pos h, if_neg (by decide), if_pos (inb_nI (show l < 10 by omega) (by decide)), nI_clamp (by omega), q.2.2.2.1, if_pos hs, xpr_eq hr.1 hc _ 0 (by decide), bd_s, xpr_eq hr.1 hc _ 1 (by decide), bd_s, a1, bv_s, b1, bd_s]
    simp only [if_pos (inb_nI (show l < 10 by omega) (show (10 : Nat) < 2 ^ 31 by decide))]
  refine Ck.a2 (InvM_give hI.1 hl hs hf) (fun σ hr => ?_)
  · obtain ⟨σ0, r, a1, a2, a3, a4⟩ := pc σ hr
    rcases a3 with ⟨rfl, -⟩ | ⟨-, nf⟩
    · obtain ⟨σ1, p1, p2, p3⟩ := record_eq (a1.rcl hr)
      have a2' : PA σ1 nil (wt Z.1 (nI l) 2) (wt Z.1 (nI l) 2) := fun n hn => by rw [p3 288 rfl (by decide)]; exact a2 n hn
      obtain ⟨σ2, b1, b2, b3⟩ := carry_c p2.1 hc hI.1.hd a2'
      obtain ⟨σ3, c1, c2, c3⟩ := end_c (l := l) (s := 4) (by omega) b3
      refine ⟨σ0, σ1, σ3, a1.sameM, p3, p2, ?_, b2.trans c2, c3⟩
      rw [a4, if_neg (by decide), p1, bv_s, b1, bv_s, c1, bv_s, pr2 hI.1.kin]
    · exact absurd hf nf
theorem e_give4 {K : Int} {Z : Zt} (hI : InvZ K Z) {l : Nat} (hl : l < nb Z.1) (hs : ¬ Z.1 (34 + 11 * l + 3) = 0) : Cq Z (dc_X9_giveUp (nI l)) (-4) := by
  have hc := hI.1.1
  have h := isL_nI hc hl
  have hb := hc.b.2
  refine Cq.s fun σ hr => ?_
  have q := hr.1.2.2.1 l (by omega)
  unfold dc_X9_giveUp
  rw [hasL_eq hr.1, bd_s, if_pos h, if_neg (by decide), if_pos (inb_nI (show l < 10 by omega) (by decide)), nI_clamp (by omega), q.2.2.2.1, if_neg hs]
theorem e_give1 {K : Int} {Z : Zt} (hI : InvZ K Z) {a : Int32} (h : ¬ isL Z.1 a) : Cq Z (dc_X9_giveUp a) (-1) := by
  have hc := hI.1.1
  refine Cq.s fun σ hr => ?_
  unfold dc_X9_giveUp
  rw [hasL_eq hr.1, bd_s, if_neg h, if_pos rfl]
theorem e_pay {K : Int} {Z : Zt} (hI : InvZ K Z) (hK : K ≤ 2000000000) {l : Nat} {c : Int32} (hl : l < nb Z.1) (hp : (1 : Int32).toInt ≤ c.toInt ∧ c.toInt ≤ (199999 : Int32).toInt) (ho : pOk Z.1 l c) (hf : Fit Z.1 (fun n => gi Z.1 l c n + gp Z.1 l c n)) : Ck (K + 200000) Z (dc_X9_pay (nI l) c) (Z.1 (34 + 11 * l + 4) - pPri Z.1 l c) (pyM Z.1 l c) := by
  have hc := hI.1.1
  have h := isL_nI hc hl
  have hb := hc.b.2
  have z1 : (1 : Int32).toInt = 1 := rfl
  have z9 : (199999 : Int32).toInt = 199999 := rfl
  have hcb : 0 ≤ c.toInt ∧ c.toInt ≤ 199999 := by omega
  have q := pn hI.1 hl hcb ho
  have hg : ∀ n, n < nc Z.1 → 0 ≤ (gi Z.1 l c n + gp Z.1 l c n).toInt ∧ (gi Z.1 l c n + gp Z.1 l c n).toInt ≤ 2000000 := fun n hn' => by
    obtain ⟨u1, u2, u3, u4, -⟩ := g_b hI.1 q (n := n) (by have := hc.c.2; omega)
    omega
  have pc : ∀ σ, RCl σ Z → ∃ (σ0 : Sto) (r : Int32), (RCl σ0 Z ∧ SameM σ σ0 ∧ Prt σ0 Z.1 l c) ∧ PA σ0 (gi Z.1 l c) (gp Z.1 l c) (wt Z.1 (nI l) 1) ∧ ((r = 1 ∧ Fit Z.1 (fun n => gi Z.1 l c n + gp Z.1 l c n)) ∨ (r = 0 ∧ ¬ Fit Z.1 (fun n => gi Z.1 l c n + gp Z.1 l c n))) ∧ dc_X9_pay (nI l) c σ = (if r = 0 then some ((-3 : Int32), σ0) else (bv (dc_X2_record 0 σ0) fun σ12 => (bv (dc_X8_carryOut 0 σ12) fun σ14 => (bv (dc_X5_takePayment 0 (nI l) σ14) fun σ16 => some (σ16.1 68 0 l, σ16))))) := fun σ hr => by
    obtain ⟨σ1, a1, a2, a3⟩ := areOf_eq hI.1 hr.1 hl c
    have r1 := a2.rcl hr
    obtain ⟨σ2, b1, b2, b3⟩ := ofPay_c hI.1 r1.1 (a3 ho) q
    have r2 := b2.rcl r1
    obtain ⟨r, c1, c2⟩ := fits_c r2.1 hc b3 hg
    refine ⟨σ2, r, ⟨r2, a2.sameM.trans b2.sameM, (a3 ho).fr fun f h1 h2 => b2.1 f (by omega)⟩, b3, c2, ?_⟩
    unfold dc_X9_pay
    rw [hasL_eq hr.1, bd_s, if_pos h, if_neg (by decide), isPm_eq, bd_s, rng, if_pos hp, if_neg (by decide), a1, bd_s, if_pos ho, if_neg (by decide), b1, bv_s, c1, bd_s]
    simp only [if_pos (inb_nI (show l < 10 by omega) (show (10 : Nat) < 2 ^ 31 by decide)), nI_clamp (show l < 2 ^ 31 by omega)]
  have sv := svc_eq hI.1 hl
  refine Ck.a2 (InvM_py hI.1 hK hl ho.1 q hf) (fun σ hr => ?_)
  · obtain ⟨σ0, r, ⟨a1, a2, a3⟩, a4, a5, a6⟩ := pc σ hr
    rcases a5 with ⟨rfl, -⟩ | ⟨-, nf⟩
    · obtain ⟨σ1, p1, p2, p3⟩ := record_eq a1
      have a4' : PA σ1 (gi Z.1 l c) (gp Z.1 l c) (wt Z.1 (nI l) 1) := fun n hn => by rw [p3 288 rfl (by decide)]; exact a4 n hn
      obtain ⟨σ2, b1, b2, b3⟩ := carry_c p2.1 hc hI.1.hd a4'
      have a3' : Prt σ2 Z.1 l c := a3.fr fun f h1 h2 => by rw [b2.1 f (isM_p h1 h2), p3 f (isM_p h1 h2) (by omega)]
      obtain ⟨σ3, c1, c2, c3⟩ := takeP_c hI.1 hl b3 a3' q
      refine ⟨σ0, σ1, σ3, a2, p3, p2, ?_, b2.trans c2, c3⟩
      have e68 : σ3.1 68 0 l = Z.1 (34 + 11 * l + 4) - pPri Z.1 l c := by
        rw [(c3.2.2.1 l (by omega)).2.2.2.2.1]
        unfold pyM
        rw [tkM_4, pyB_l sv.2 (by omega) (by omega)]
      rw [a6, if_neg (by decide), p1, bv_s, b1, bv_s, c1, bv_s, e68]
    · exact absurd hf nf
theorem e_pay4 {K : Int} {Z : Zt} (hI : InvZ K Z) {l : Nat} {c : Int32} (hl : l < nb Z.1) (hp : (1 : Int32).toInt ≤ c.toInt ∧ c.toInt ≤ (199999 : Int32).toInt) (ho : ¬ pOk Z.1 l c) : Cq Z (dc_X9_pay (nI l) c) (-4) := by
  have hc := hI.1.1
  have h := isL_nI hc hl
  have hb := hc.b.2
  have z1 : (1 : Int32).toInt = 1 := rfl
  have z9 : (199999 : Int32).toInt = 199999 := rfl
  intro σ hr
  obtain ⟨σ1, a1, a2, a3⟩ := areOf_eq hI.1 hr.1 hl c
  refine ⟨σ1, ?_, a2.rcl hr, a2.sameM⟩
  unfold dc_X9_pay
  rw [hasL_eq hr.1, bd_s, if_pos h, if_neg (by decide), isPm_eq, bd_s, rng, if_pos hp, if_neg (by decide), a1, bd_s, if_neg ho, if_pos rfl]
theorem e_pay2 {K : Int} {Z : Zt} (hI : InvZ K Z) {l : Nat} {c : Int32} (hl : l < nb Z.1) (hp : ¬ ((1 : Int32).toInt ≤ c.toInt ∧ c.toInt ≤ (199999 : Int32).toInt)) : Cq Z (dc_X9_pay (nI l) c) (-2) := by
  have hc := hI.1.1
  have h := isL_nI hc hl
  have hb := hc.b.2
  have z1 : (1 : Int32).toInt = 1 := rfl
  have z9 : (199999 : Int32).toInt = 199999 := rfl
  refine Cq.s fun σ hr => ?_
  unfold dc_X9_pay
  rw [hasL_eq hr.1, bd_s, if_pos h, if_neg (by decide), isPm_eq, bd_s, rng, if_neg hp, if_pos rfl]
theorem e_pay1 {K : Int} {Z : Zt} (hI : InvZ K Z) {a c : Int32} (h : ¬ isL Z.1 a) : Cq Z (dc_X9_pay a c) (-1) := by
  have hc := hI.1.1
  refine Cq.s fun σ hr => ?_
  unfold dc_X9_pay
  rw [hasL_eq hr.1, bd_s, if_neg h, if_pos rfl]
theorem e_sell {K : Int} {Z : Zt} (hI : InvZ K Z) (hK : K ≤ 2000000000) {l : Nat} {c : Int32} (hl : l < nb Z.1) (hp0 : (0 : Int32).toInt ≤ c.toInt ∧ c.toInt ≤ (99999 : Int32).toInt) (hr1 : Z.1 (34 + 11 * l + 3) = 1) (h8 : (3 : Int32) ≤ Z.1 (34 + 11 * l + 8)) (hf : Fit Z.1 (fun n => nil n + hp Z.1 l c n)) : Ck (K + 200000) Z (dc_X9_sell (nI l) c) (wsm (sB Z.1 l c) l (nc Z.1)) (sM Z.1 l c) := by
  have hc := hI.1.1
  have h := isL_nI hc hl
  have hb := hc.b.2
  have z0 : (0 : Int32).toInt = 0 := rfl
  have z9 : (99999 : Int32).toInt = 99999 := rfl
  have hcb : 0 ≤ c.toInt ∧ c.toInt ≤ 99999 := by omega
  have hg : ∀ n, n < nc Z.1 → 0 ≤ (nil n + hp Z.1 l c n).toInt ∧ (nil n + hp Z.1 l c n).toInt ≤ 2000000 := fun n hn' => by
    have := (hp_z (l := l) hI.1 hK hcb hn').1
    show 0 ≤ ((0 : Int32) + hp Z.1 l c n).toInt ∧ ((0 : Int32) + hp Z.1 l c n).toInt ≤ 2000000
    rw [Int32.zero_add]
    omega
  have pc : ∀ σ, RCl σ Z → ∃ (σ0 : Sto) (r : Int32), FrW 288 σ σ0 ∧ PA σ0 nil (hp Z.1 l c) (wq Z.1 l c) ∧ ((r = 1 ∧ Fit Z.1 (fun n => nil n + hp Z.1 l c n)) ∨ (r = 0 ∧ ¬ Fit Z.1 (fun n => nil n + hp Z.1 l c n))) ∧ dc_X9_sell (nI l) c σ = (if r = 0 then some ((-3 : Int32), σ0) else (bv (dc_X2_record 0 σ0) fun σ13 => (bv (dc_X8_carryOut 0 σ13) fun σ15 => (bv (dc_X4_end 0 l (3 : Int32) (up σ15 88 0 0 (sQ Z.1 l c - sA2 Z.1 l c))) fun σ18 => (bd (dc_X5_writeOff 0 (nI l) σ18) fun r19 σ20 => some (r19, σ20)))))) := fun σ hr => by
    obtain ⟨σ0, a1, a2, a3⟩ := ofSale_c hI.1 hK hr.1 (l := l) hcb
    obtain ⟨r, b1, b2⟩ := fits_c (a2.cla hr.1) hc a3 hg
    have q := hr.1.2.2.1 l (by omega)
    refine ⟨σ0, r, a2, a3, b2, ?_⟩
    unfold dc_X9_sell
    rw [hasL_eq hr.1, bd_s, if_pos h, if_neg (by decide), isPc_eq, bd_s, rng, if_pos hp0, if_neg (by decide), xruns_eq hr.1 hc hl, bd_s, if_pos hr1, if_neg (by decide), if_pos (inb_nI (show l < 10 by omega) (by decide)), nI_clamp (by omega), q.2.2.2.2.2.2.2.2.1, if_pos h8, a1, bd_s, b1, bd_s]
    simp only [if_pos (inb_nI (show l < 10 by omega) (show (10 : Nat) < 2 ^ 31 by decide))]
  refine Ck.a2 (InvM_sM hI.1 hK hl hcb hf) (fun σ hr => ?_)
  · obtain ⟨σ0, r, a1, a2, a3, a4⟩ := pc σ hr
    rcases a3 with ⟨rfl, -⟩ | ⟨-, nf⟩
    · obtain ⟨σ1, p1, p2, p3⟩ := record_eq (a1.rcl hr)
      have a2' : PA σ1 nil (hp Z.1 l c) (wq Z.1 l c) := fun n hn => by rw [p3 288 rfl (by decide)]; exact a2 n hn
      obtain ⟨σ2, b1, b2, b3⟩ := carry_c p2.1 hc hI.1.hd a2'
      have b4 : Cla (up σ2 88 0 0 (sQ Z.1 l c - sA2 Z.1 l c)) 0 (sB Z.1 l c) := Cla_up88 b3
      obtain ⟨σ3, c1, c2, c3⟩ := end_c (l := l) (s := 3) (by omega) b4
      have hE3 : nc (endM (sB Z.1 l c) l 3) = nc Z.1 := by unfold nc; rw [endM_out (by omega)]; exact sB_n
      have cE : Cnt (endM (sB Z.1 l c) l 3) := (sB_cnt hc).same (endM_out (by omega)) (endM_out (by omega)) (endM_out (by omega))
      have hE : Hd (endM (sB Z.1 l c) l 3) := fun n hn => by
        rw [hE3] at hn
        unfold isI
        rw [endM_out (by omega), endM_out (by omega)]
        exact sB_hd hI.1.hd n (by rw [sB_n]; exact hn)
      obtain ⟨σ4, d1, d2, d3⟩ := wo_c9 (l := l) c3 cE hE
      rw [hE3, wsm_end (by omega)] at d1
      rw [hE3, wo_end (by omega)] at d3
      refine ⟨σ0, σ1, σ4, a1.sameM, p3, p2, ?_, b2.trans ((FrJ_up rfl (FrJ.refl 0 σ2)).trans (c2.trans d2)), d3⟩
      rw [a4, if_neg (by decide), p1, bv_s, b1, bv_s, c1, bv_s, d1, bd_s]
    · exact absurd hf nf
theorem e_sell4a {K : Int} {Z : Zt} (hI : InvZ K Z) {l : Nat} {c : Int32} (hl : l < nb Z.1) (hp0 : (0 : Int32).toInt ≤ c.toInt ∧ c.toInt ≤ (99999 : Int32).toInt) (hr1 : Z.1 (34 + 11 * l + 3) = 1) (h8 : ¬ (3 : Int32) ≤ Z.1 (34 + 11 * l + 8)) : Cq Z (dc_X9_sell (nI l) c) (-4) := by
  have hc := hI.1.1
  have h := isL_nI hc hl
  have hb := hc.b.2
  have z0 : (0 : Int32).toInt = 0 := rfl
  have z9 : (99999 : Int32).toInt = 99999 := rfl
  refine Cq.s fun σ hr => ?_
  have q := hr.1.2.2.1 l (by omega)
  unfold dc_X9_sell
  rw [hasL_eq hr.1, bd_s, if_pos h, if_neg (by decide), isPc_eq, bd_s, rng, if_pos hp0, if_neg (by decide), xruns_eq hr.1 hc hl, bd_s, if_pos hr1, if_neg (by decide), if_pos (inb_nI (show l < 10 by omega) (by decide)), nI_clamp (by omega), q.2.2.2.2.2.2.2.2.1, if_neg h8]
theorem e_sell4 {K : Int} {Z : Zt} (hI : InvZ K Z) {l : Nat} {c : Int32} (hl : l < nb Z.1) (hp0 : (0 : Int32).toInt ≤ c.toInt ∧ c.toInt ≤ (99999 : Int32).toInt) (hr1 : ¬ Z.1 (34 + 11 * l + 3) = 1) : Cq Z (dc_X9_sell (nI l) c) (-4) := by
  have hc := hI.1.1
  have h := isL_nI hc hl
  have hb := hc.b.2
  have z0 : (0 : Int32).toInt = 0 := rfl
  have z9 : (99999 : Int32).toInt = 99999 := rfl
  refine Cq.s fun σ hr => ?_
  unfold dc_X9_sell
  rw [hasL_eq hr.1, bd_s, if_pos h, if_neg (by decide), isPc_eq, bd_s, rng, if_pos hp0, if_neg (by decide), xruns_eq hr.1 hc hl, bd_s, if_neg hr1, if_pos rfl]
theorem e_sell2 {K : Int} {Z : Zt} (hI : InvZ K Z) {l : Nat} {c : Int32} (hl : l < nb Z.1) (hp0 : ¬ ((0 : Int32).toInt ≤ c.toInt ∧ c.toInt ≤ (99999 : Int32).toInt)) : Cq Z (dc_X9_sell (nI l) c) (-2) := by
  have hc := hI.1.1
  have h := isL_nI hc hl
  have hb := hc.b.2
  have z0 : (0 : Int32).toInt = 0 := rfl
  have z9 : (99999 : Int32).toInt = 99999 := rfl
  refine Cq.s fun σ hr => ?_
  unfold dc_X9_sell
  rw [hasL_eq hr.1, bd_s, if_pos h, if_neg (by decide), isPc_eq, bd_s, rng, if_neg hp0, if_pos rfl]
theorem e_torep {K : Int} {Z : Zt} (hI : InvZ K Z) {σ : Sto} (hr : RCl σ Z) {l : Nat} (hl : l < nb Z.1) (r : Z.1 (34 + 11 * l + 3) = 1) : dc_X9_toRepay (nI l) σ = some ((((((((Z.1 (34 + 11 * l + 4)).toInt64 + (Z.1 (34 + 11 * l + 6)).toInt64) - (1 : Int64)) * (1000 : Int64)) / (((1000 : Int32) - feeI (svc Z.1 l)).toInt64)).toInt32) + (1 : Int32)), σ) := by
  have hc := hI.1.1
  have h := isL_nI hc hl
  have hb := hc.b.2
  obtain ⟨s1, s2⟩ := svc_eq hI.1 hl
  have hf := feef s2
  have k := hI.1.2.2.2.2.2.1 l hl
  have kP := k.2.2.2.2.1
  have kD : 0 ≤ (Z.1 (34 + 11 * l + 6)).toInt ∧ (Z.1 (34 + 11 * l + 6)).toInt ≤ 1200000 := by
    have := k.2.2.2.2.2.2.1
    have := hI.1.2.1
    omega
  have e := rp_c kP kD hf
  have q := hr.1.2.2.1 l (by omega)
  have e4 : ((1000 : Int32) - feeI (svc Z.1 l)).toInt = 1000 - (feeI (svc Z.1 l)).toInt := by
    rw [tsub] <;> rw [show (1000 : Int32).toInt = 1000 from rfl] <;> omega
  unfold dc_X9_toRepay
  rw [hasL_eq hr.1, bd_s, if_pos h, if_neg (by decide), xruns_eq hr.1 hc hl, bd_s, if_pos r, if_neg (by decide), if_pos (inb_nI (show l < 10 by omega) (by decide)), nI_clamp (by omega), q.2.2.2.2.2.2.2.2.2.1, s1, fee_eq s2, bd_s, if_pos (by rw [tlt, e4, show (0 : Int32).toInt = 0 from rfl]; omega), if_pos (fun z => ?_), q.2.2.2.2.2.2.1, q.2.2.2.2.1]
  have := congrArg Int64.toInt z
  rw [Int32.toInt_toInt64, e4, show (0 : Int64).toInt = 0 from rfl] at this
  omega
theorem e_investor {K : Int} {Z : Zt} (hI : InvZ K Z) {σ : Sto} (hr : RCl σ Z) {i : Nat} (hi : i < na Z.1) (b : Int32) : dc_X9_investor (nI i) b σ = some ((if b = 0 then Z.1 (10 + 3 * i) else if b = 1 then xprO Z.1 (nI i) else if b = 2 then xlvO Z.1 (nI i) else if b = 3 then xlnO Z.1 (nI i) else if b = 4 then Z.1 (10 + 3 * i + 1) else if b = 5 then Z.1 (10 + 3 * i + 2) else -2), σ) := by
  have hc := hI.1.1
  have h := isI_nI hc hi
  have hi8 := hc.a.2
  unfold dc_X9_investor
  have q := hr.1.2.1 i (by omega)
  rw [hasI_eq hr.1, bd_s, if_pos h, if_neg (by decide), if_pos (inb_nI (show i < 8 by omega) (by decide))]
  simp only [xprO_eq hr.1 hc, xlvO_eq hr.1 hc, xlnO_eq hr.1 hc, bd_s, nI_clamp (show i < 2 ^ 31 by omega), q.1, q.2.1, q.2.2]
  repeat (first | rfl | refine ite_q ?_)
theorem e_investor_0 {K : Int} {Z : Zt} (hI : InvZ K Z) {σ : Sto} (hr : RCl σ Z) {i : Nat} (hi : i < na Z.1) : dc_X9_investor (nI i) (0 : Int32) σ = some (Z.1 (10 + 3 * i), σ) := by
  rw [e_investor hI hr hi (0 : Int32), if_pos rfl]
theorem e_investor_1 {K : Int} {Z : Zt} (hI : InvZ K Z) {σ : Sto} (hr : RCl σ Z) {i : Nat} (hi : i < na Z.1) : dc_X9_investor (nI i) (1 : Int32) σ = some (xprO Z.1 (nI i), σ) := by
  rw [e_investor hI hr hi (1 : Int32), if_neg (by decide), if_pos rfl]
theorem e_investor_2 {K : Int} {Z : Zt} (hI : InvZ K Z) {σ : Sto} (hr : RCl σ Z) {i : Nat} (hi : i < na Z.1) : dc_X9_investor (nI i) (2 : Int32) σ = some (xlvO Z.1 (nI i), σ) := by
  rw [e_investor hI hr hi (2 : Int32), if_neg (by decide), if_neg (by decide), if_pos rfl]
theorem e_investor_3 {K : Int} {Z : Zt} (hI : InvZ K Z) {σ : Sto} (hr : RCl σ Z) {i : Nat} (hi : i < na Z.1) : dc_X9_investor (nI i) (3 : Int32) σ = some (xlnO Z.1 (nI i), σ) := by
  rw [e_investor hI hr hi (3 : Int32), if_neg (by decide), if_neg (by decide), if_neg (by decide), if_pos rfl]
theorem e_investor_4 {K : Int} {Z : Zt} (hI : InvZ K Z) {σ : Sto} (hr : RCl σ Z) {i : Nat} (hi : i < na Z.1) : dc_X9_investor (nI i) (4 : Int32) σ = some (Z.1 (10 + 3 * i + 1), σ) := by
  rw [e_investor hI hr hi (4 : Int32), if_neg (by decide), if_neg (by decide), if_neg (by decide), if_neg (by decide), if_pos rfl]
theorem e_investor_5 {K : Int} {Z : Zt} (hI : InvZ K Z) {σ : Sto} (hr : RCl σ Z) {i : Nat} (hi : i < na Z.1) : dc_X9_investor (nI i) (5 : Int32) σ = some (Z.1 (10 + 3 * i + 2), σ) := by
  rw [e_investor hI hr hi (5 : Int32), if_neg (by decide), if_neg (by decide), if_neg (by decide), if_neg (by decide), if_neg (by decide), if_pos rfl]
theorem e_investor1 {K : Int} {Z : Zt} (hI : InvZ K Z) {σ : Sto} (hr : RCl σ Z) {a : Int32} (h : ¬ isI Z.1 a) (b : Int32) : dc_X9_investor a b σ = some (-1, σ) := by
  have hc := hI.1.1
  unfold dc_X9_investor
  rw [hasI_eq hr.1, bd_s, if_neg h, if_pos rfl]
theorem e_note {K : Int} {Z : Zt} (hI : InvZ K Z) {σ : Sto} (hr : RCl σ Z) {i : Nat} (hi : i < nc Z.1) (b : Int32) : dc_X9_note (nI i) b σ = some ((if b = 0 then Z.1 (144 + 7 * i) else if b = 1 then Z.1 (144 + 7 * i + 1) else if b = 2 then Z.1 (144 + 7 * i + 2) else if b = 3 then Z.1 (144 + 7 * i + 3) else if b = 4 then Z.1 (144 + 7 * i + 4) else if b = 5 then Z.1 (144 + 7 * i + 5) else if b = 6 then Z.1 (144 + 7 * i + 6) else -2), σ) := by
  have hc := hI.1.1
  have h := isN_nI hc hi
  have hi8 := hc.c.2
  unfold dc_X9_note
  have q := hr.1.2.2.2 i (by omega)
  rw [hasN_eq hr.1, bd_s, if_pos h, if_neg (by decide), if_pos (inb_nI (show i < 60 by omega) (by decide))]
  simp only [nI_clamp (show i < 2 ^ 31 by omega), q.1, q.2.1, q.2.2.1, q.2.2.2.1, q.2.2.2.2.1, q.2.2.2.2.2.1, q.2.2.2.2.2.2]
  repeat (first | rfl | refine ite_q ?_)
theorem e_note_0 {K : Int} {Z : Zt} (hI : InvZ K Z) {σ : Sto} (hr : RCl σ Z) {i : Nat} (hi : i < nc Z.1) : dc_X9_note (nI i) (0 : Int32) σ = some (Z.1 (144 + 7 * i), σ) := by
  rw [e_note hI hr hi (0 : Int32), if_pos rfl]
theorem e_note_1 {K : Int} {Z : Zt} (hI : InvZ K Z) {σ : Sto} (hr : RCl σ Z) {i : Nat} (hi : i < nc Z.1) : dc_X9_note (nI i) (1 : Int32) σ = some (Z.1 (144 + 7 * i + 1), σ) := by
  rw [e_note hI hr hi (1 : Int32), if_neg (by decide), if_pos rfl]
theorem e_note_2 {K : Int} {Z : Zt} (hI : InvZ K Z) {σ : Sto} (hr : RCl σ Z) {i : Nat} (hi : i < nc Z.1) : dc_X9_note (nI i) (2 : Int32) σ = some (Z.1 (144 + 7 * i + 2), σ) := by
  rw [e_note hI hr hi (2 : Int32), if_neg (by decide), if_neg (by decide), if_pos rfl]
theorem e_note_3 {K : Int} {Z : Zt} (hI : InvZ K Z) {σ : Sto} (hr : RCl σ Z) {i : Nat} (hi : i < nc Z.1) : dc_X9_note (nI i) (3 : Int32) σ = some (Z.1 (144 + 7 * i + 3), σ) := by
  rw [e_note hI hr hi (3 : Int32), if_neg (by decide), if_neg (by decide), if_neg (by decide), if_pos rfl]
theorem e_note_4 {K : Int} {Z : Zt} (hI : InvZ K Z) {σ : Sto} (hr : RCl σ Z) {i : Nat} (hi : i < nc Z.1) : dc_X9_note (nI i) (4 : Int32) σ = some (Z.1 (144 + 7 * i + 4), σ) := by
  rw [e_note hI hr hi (4 : Int32), if_neg (by decide), if_neg (by decide), if_neg (by decide), if_neg (by decide), if_pos rfl]
theorem e_note_5 {K : Int} {Z : Zt} (hI : InvZ K Z) {σ : Sto} (hr : RCl σ Z) {i : Nat} (hi : i < nc Z.1) : dc_X9_note (nI i) (5 : Int32) σ = some (Z.1 (144 + 7 * i + 5), σ) := by
  rw [e_note hI hr hi (5 : Int32), if_neg (by decide), if_neg (by decide), if_neg (by decide), if_neg (by decide), if_neg (by decide), if_pos rfl]
theorem e_note_6 {K : Int} {Z : Zt} (hI : InvZ K Z) {σ : Sto} (hr : RCl σ Z) {i : Nat} (hi : i < nc Z.1) : dc_X9_note (nI i) (6 : Int32) σ = some (Z.1 (144 + 7 * i + 6), σ) := by
  rw [e_note hI hr hi (6 : Int32), if_neg (by decide), if_neg (by decide), if_neg (by decide), if_neg (by decide), if_neg (by decide), if_neg (by decide), if_pos rfl]
theorem e_note1 {K : Int} {Z : Zt} (hI : InvZ K Z) {σ : Sto} (hr : RCl σ Z) {a : Int32} (h : ¬ isN Z.1 a) (b : Int32) : dc_X9_note a b σ = some (-1, σ) := by
  have hc := hI.1.1
  unfold dc_X9_note
  rw [hasN_eq hr.1, bd_s, if_neg h, if_pos rfl]
theorem e_loan {K : Int} {Z : Zt} (hI : InvZ K Z) {σ : Sto} (hr : RCl σ Z) {i : Nat} (hi : i < nb Z.1) (b : Int32) : dc_X9_loan (nI i) b σ = some ((if b = 0 then Z.1 (34 + 11 * i + 3) else if b = 1 then Z.1 (34 + 11 * i) else if b = 2 then Z.1 (34 + 11 * i + 4) else if b = 3 then Z.1 (34 + 11 * i + 5) else if b = 4 then Z.1 (34 + 11 * i + 6) else if b = 5 then Z.1 (34 + 11 * i + 7) else if b = 6 then Z.1 (34 + 11 * i + 8) else if b = 7 then Z.1 (34 + 11 * i + 9) else if b = 8 then Z.1 (34 + 11 * i + 10) else if b = 9 then msn Z.1 i else if b = 10 then xnof Z.1 (nI i) else if b = 11 then pr Z.1 (nI i) 0 else if b = 12 then pr Z.1 (nI i) 1 else -2), σ) := by
  have hc := hI.1.1
  have h := isL_nI hc hi
  have hi8 := hc.b.2
  unfold dc_X9_loan
  have q := hr.1.2.2.1 i (by omega)
  rw [hasL_eq hr.1, bd_s, if_pos h, if_neg (by decide), if_pos (inb_nI (show i < 10 by omega) (by decide))]
  simp only [xmsn_eq hr.1 hc hI.1.kin hi, xnof_eq hr.1 hc, xpr_eq hr.1 hc _ 0 (by decide), xpr_eq hr.1 hc _ 1 (by decide), bd_s, nI_clamp (show i < 2 ^ 31 by omega), q.1, q.2.1, q.2.2.1, q.2.2.2.1, q.2.2.2.2.1, q.2.2.2.2.2.1, q.2.2.2.2.2.2.1, q.2.2.2.2.2.2.2.1, q.2.2.2.2.2.2.2.2.1, q.2.2.2.2.2.2.2.2.2.1, q.2.2.2.2.2.2.2.2.2.2]
  repeat (first | rfl | refine ite_q ?_)
theorem e_loan_0 {K : Int} {Z : Zt} (hI : InvZ K Z) {σ : Sto} (hr : RCl σ Z) {i : Nat} (hi : i < nb Z.1) : dc_X9_loan (nI i) (0 : Int32) σ = some (Z.1 (34 + 11 * i + 3), σ) := by
  rw [e_loan hI hr hi (0 : Int32), if_pos rfl]
theorem e_loan_1 {K : Int} {Z : Zt} (hI : InvZ K Z) {σ : Sto} (hr : RCl σ Z) {i : Nat} (hi : i < nb Z.1) : dc_X9_loan (nI i) (1 : Int32) σ = some (Z.1 (34 + 11 * i), σ) := by
  rw [e_loan hI hr hi (1 : Int32), if_neg (by decide), if_pos rfl]
theorem e_loan_2 {K : Int} {Z : Zt} (hI : InvZ K Z) {σ : Sto} (hr : RCl σ Z) {i : Nat} (hi : i < nb Z.1) : dc_X9_loan (nI i) (2 : Int32) σ = some (Z.1 (34 + 11 * i + 4), σ) := by
  rw [e_loan hI hr hi (2 : Int32), if_neg (by decide), if_neg (by decide), if_pos rfl]
theorem e_loan_3 {K : Int} {Z : Zt} (hI : InvZ K Z) {σ : Sto} (hr : RCl σ Z) {i : Nat} (hi : i < nb Z.1) : dc_X9_loan (nI i) (3 : Int32) σ = some (Z.1 (34 + 11 * i + 5), σ) := by
  rw [e_loan hI hr hi (3 : Int32), if_neg (by decide), if_neg (by decide), if_neg (by decide), if_pos rfl]
theorem e_loan_4 {K : Int} {Z : Zt} (hI : InvZ K Z) {σ : Sto} (hr : RCl σ Z) {i : Nat} (hi : i < nb Z.1) : dc_X9_loan (nI i) (4 : Int32) σ = some (Z.1 (34 + 11 * i + 6), σ) := by
  rw [e_loan hI hr hi (4 : Int32), if_neg (by decide), if_neg (by decide), if_neg (by decide), if_neg (by decide), if_pos rfl]
theorem e_loan_5 {K : Int} {Z : Zt} (hI : InvZ K Z) {σ : Sto} (hr : RCl σ Z) {i : Nat} (hi : i < nb Z.1) : dc_X9_loan (nI i) (5 : Int32) σ = some (Z.1 (34 + 11 * i + 7), σ) := by
  rw [e_loan hI hr hi (5 : Int32), if_neg (by decide), if_neg (by decide), if_neg (by decide), if_neg (by decide), if_neg (by decide), if_pos rfl]
theorem e_loan_6 {K : Int} {Z : Zt} (hI : InvZ K Z) {σ : Sto} (hr : RCl σ Z) {i : Nat} (hi : i < nb Z.1) : dc_X9_loan (nI i) (6 : Int32) σ = some (Z.1 (34 + 11 * i + 8), σ) := by
  rw [e_loan hI hr hi (6 : Int32), if_neg (by decide), if_neg (by decide), if_neg (by decide), if_neg (by decide), if_neg (by decide), if_neg (by decide), if_pos rfl]
theorem e_loan_7 {K : Int} {Z : Zt} (hI : InvZ K Z) {σ : Sto} (hr : RCl σ Z) {i : Nat} (hi : i < nb Z.1) : dc_X9_loan (nI i) (7 : Int32) σ = some (Z.1 (34 + 11 * i + 9), σ) := by
  rw [e_loan hI hr hi (7 : Int32), if_neg (by decide), if_neg (by decide), if_neg (by decide), if_neg (by decide), if_neg (by decide), if_neg (by decide), if_neg (by decide), if_pos rfl]
theorem e_loan_8 {K : Int} {Z : Zt} (hI : InvZ K Z) {σ : Sto} (hr : RCl σ Z) {i : Nat} (hi : i < nb Z.1) : dc_X9_loan (nI i) (8 : Int32) σ = some (Z.1 (34 + 11 * i + 10), σ) := by
  rw [e_loan hI hr hi (8 : Int32), if_neg (by decide), if_neg (by decide), if_neg (by decide), if_neg (by decide), if_neg (by decide), if_neg (by decide), if_neg (by decide), if_neg (by decide), if_pos rfl]
theorem e_loan_9 {K : Int} {Z : Zt} (hI : InvZ K Z) {σ : Sto} (hr : RCl σ Z) {i : Nat} (hi : i < nb Z.1) : dc_X9_loan (nI i) (9 : Int32) σ = some (msn Z.1 i, σ) := by
  rw [e_loan hI hr hi (9 : Int32), if_neg (by decide), if_neg (by decide), if_neg (by decide), if_neg (by decide), if_neg (by decide), if_neg (by decide), if_neg (by decide), if_neg (by decide), if_neg (by decide), if_pos rfl]
theorem e_loan_11 {K : Int} {Z : Zt} (hI : InvZ K Z) {σ : Sto} (hr : RCl σ Z) {i : Nat} (hi : i < nb Z.1) : dc_X9_loan (nI i) (11 : Int32) σ = some (pr Z.1 (nI i) 0, σ) := by
  rw [e_loan hI hr hi (11 : Int32), if_neg (by decide), if_neg (by decide), if_neg (by decide), if_neg (by decide), if_neg (by decide), if_neg (by decide), if_neg (by decide), if_neg (by decide), if_neg (by decide), if_neg (by decide), if_neg (by decide), if_pos rfl]
theorem e_loan_12 {K : Int} {Z : Zt} (hI : InvZ K Z) {σ : Sto} (hr : RCl σ Z) {i : Nat} (hi : i < nb Z.1) : dc_X9_loan (nI i) (12 : Int32) σ = some (pr Z.1 (nI i) 1, σ) := by
  rw [e_loan hI hr hi (12 : Int32), if_neg (by decide), if_neg (by decide), if_neg (by decide), if_neg (by decide), if_neg (by decide), if_neg (by decide), if_neg (by decide), if_neg (by decide), if_neg (by decide), if_neg (by decide), if_neg (by decide), if_neg (by decide), if_pos rfl]
theorem e_loan1 {K : Int} {Z : Zt} (hI : InvZ K Z) {σ : Sto} (hr : RCl σ Z) {a : Int32} (h : ¬ isL Z.1 a) (b : Int32) : dc_X9_loan a b σ = some (-1, σ) := by
  have hc := hI.1.1
  unfold dc_X9_loan
  rw [hasL_eq hr.1, bd_s, if_neg h, if_pos rfl]
theorem e_servicer {K : Int} {Z : Zt} (hI : InvZ K Z) {σ : Sto} (hr : RCl σ Z) {i : Nat} (hi : i < 4) (b : Int32) : dc_X9_servicer (nI i) b σ = some ((if b = 0 then feeI i else if b = 1 then Z.1 (6 + i) else if b = 2 then xsvB Z.1 (nI i) else -2), σ) := by
  have hc := hI.1.1
  have h : 0 ≤ (nI i).toInt ∧ (nI i).toInt < 4 := by rw [nI_toInt (by omega)]; omega
  unfold dc_X9_servicer
  rw [xisS_eq, bd_s, if_pos h, if_neg (by decide)]
  simp only [if_pos (inb_nI (show i < 4 by omega) (by decide)), xsvB_eq hr.1 hc, bd_s, nI_clamp (show i < 2 ^ 31 by omega), hr.1.1.2.2.2.2.2.2 i hi]
  repeat (first | rfl | refine ite_q ?_)
theorem e_servicer_0 {K : Int} {Z : Zt} (hI : InvZ K Z) {σ : Sto} (hr : RCl σ Z) {i : Nat} (hi : i < 4) : dc_X9_servicer (nI i) (0 : Int32) σ = some (feeI i, σ) := by
  rw [e_servicer hI hr hi (0 : Int32), if_pos rfl]
theorem e_servicer_1 {K : Int} {Z : Zt} (hI : InvZ K Z) {σ : Sto} (hr : RCl σ Z) {i : Nat} (hi : i < 4) : dc_X9_servicer (nI i) (1 : Int32) σ = some (Z.1 (6 + i), σ) := by
  rw [e_servicer hI hr hi (1 : Int32), if_neg (by decide), if_pos rfl]
theorem e_servicer1 {K : Int} {Z : Zt} (hI : InvZ K Z) {σ : Sto} (hr : RCl σ Z) {a : Int32} (h : ¬ (0 ≤ a.toInt ∧ a.toInt < 4)) (b : Int32) : dc_X9_servicer a b σ = some (-1, σ) := by
  have hc := hI.1.1
  unfold dc_X9_servicer
  rw [xisS_eq, bd_s, if_neg h, if_pos rfl]
theorem e_count {K : Int} {Z : Zt} (hI : InvZ K Z) {σ : Sto} (hr : RCl σ Z) (b : Int32) : dc_X9_count b σ = some ((if b = 0 then Z.1 0 else if b = 1 then Z.1 1 else if b = 2 then Z.1 2 else if b = 3 then xinS Z.1 0 else if b = 4 then xinS Z.1 1 else if b = 5 then xinS Z.1 2 else if b = 6 then xinS Z.1 3 else if b = 7 then xinS Z.1 4 else if b = 8 then Z.1 3 else if b = 9 then Z.1 4 else if b = 10 then Z.1 5 else if b = 11 then xaPr Z.1 else if b = 12 then xaIn Z.1 else if b = 13 then xaLo Z.1 else if b = 14 then xinA Z.1 else if b = 15 then xorS Z.1 else if b = 16 then nI Z.2.1.1 else if b = 17 then nI Z.2.2.2.1 else -2), σ) := by
  have hc := hI.1.1
  unfold dc_X9_count
  have q := hr.1.1
  have q2 := hr.2
  by_cases b0 : b = 0
  · subst b0
    rw [if_pos (by decide), if_pos rfl, q.1]
    rfl
  by_cases b1 : b = 1
  · subst b1
    rw [if_pos (by decide), if_neg (by decide), if_pos rfl, q.2.1]
    rfl
  by_cases b2 : b = 2
  · subst b2
    rw [if_pos (by decide), if_neg (by decide), if_neg (by decide), if_pos rfl, q.2.2.1]
    rfl
  by_cases b3 : b = 3
  · subst b3
    rw [if_neg (by decide), if_neg (by decide), show ((3 : Int32) - 3) = 0 from rfl, xinS_eq hr.1 hc]
    rfl
  by_cases b4 : b = 4
  · subst b4
    rw [if_neg (by decide), if_neg (by decide), show ((4 : Int32) - 3) = 1 from rfl, xinS_eq hr.1 hc]
    rfl
  by_cases b5 : b = 5
  · subst b5
    rw [if_neg (by decide), if_neg (by decide), show ((5 : Int32) - 3) = 2 from rfl, xinS_eq hr.1 hc]
    rfl
  by_cases b6 : b = 6
  · subst b6
    rw [if_neg (by decide), if_neg (by decide), show ((6 : Int32) - 3) = 3 from rfl, xinS_eq hr.1 hc]
    rfl
  by_cases b7 : b = 7
  · subst b7
    rw [if_neg (by decide), if_neg (by decide), show ((7 : Int32) - 3) = 4 from rfl, xinS_eq hr.1 hc]
    rfl
  by_cases b8 : b = 8
  · subst b8
    rw [if_neg (by decide), if_pos (by decide), if_neg (by decide), if_neg (by decide), if_neg (by decide), if_neg (by decide), if_neg (by decide), if_neg (by decide), if_neg (by decide), if_neg (by decide), if_pos rfl, q.2.2.2.1]
    rfl
  by_cases b9 : b = 9
  · subst b9
    rw [if_neg (by decide), if_pos (by decide), if_neg (by decide), if_neg (by decide), if_neg (by decide), if_neg (by decide), if_neg (by decide), if_neg (by decide), if_neg (by decide), if_neg (by decide), if_neg (by decide), if_pos rfl, q.2.2.2.2.1]
    rfl
  by_cases b10 : b = 10
  · subst b10
    rw [if_neg (by decide), if_pos (by decide), if_neg (by decide), if_neg (by decide), if_neg (by decide), if_neg (by decide), if_neg (by decide), if_neg (by decide), if_neg (by decide), if_neg (by decide), if_neg (by decide), if_neg (by decide), if_pos rfl, q.2.2.2.2.2.1]
    rfl
  by_cases b11 : b = 11
  · subst b11
    rw [if_neg (by decide), if_pos (by decide), if_neg (by decide), if_neg (by decide), if_neg (by decide), if_neg (by decide), if_neg (by decide), if_neg (by decide), if_neg (by decide), if_neg (by decide), if_neg (by decide), if_neg (by decide), if_neg (by decide), if_pos rfl, xaPr_eq hr.1 hc]
    rfl
  by_cases b12 : b = 12
  · subst b12
    rw [if_neg (by decide), if_pos (by decide), if_neg (by decide), if_neg (by decide), if_neg (by decide), if_neg (by decide), if_neg (by decide), if_neg (by decide), if_neg (by decide), if_neg (by decide), if_neg (by decide), if_neg (by decide), if_neg (by decide), if_neg (by decide), if_pos rfl, xaIn_eq hr.1 hc]
    rfl
  by_cases b13 : b = 13
  · subst b13
    rw [if_neg (by decide), if_pos (by decide), if_neg (by decide), if_neg (by decide), if_neg (by decide), if_neg (by decide), if_neg (by decide), if_neg (by decide), if_neg (by decide), if_neg (by decide), if_neg (by decide), if_neg (by decide), if_neg (by decide), if_neg (by decide), if_neg (by decide), if_pos rfl, xaLo_eq hr.1 hc]
    rfl
  by_cases b14 : b = 14
  · subst b14
    rw [if_neg (by decide), if_pos (by decide), if_neg (by decide), if_neg (by decide), if_neg (by decide), if_neg (by decide), if_neg (by decide), if_neg (by decide), if_neg (by decide), if_neg (by decide), if_neg (by decide), if_neg (by decide), if_neg (by decide), if_neg (by decide), if_neg (by decide), if_neg (by decide), if_pos rfl, xinA_eq hr.1 hc]
    rfl
  by_cases b15 : b = 15
  · subst b15
    rw [if_neg (by decide), if_pos (by decide), if_neg (by decide), if_neg (by decide), if_neg (by decide), if_neg (by decide), if_neg (by decide), if_neg (by decide), if_neg (by decide), if_neg (by decide), if_neg (by decide), if_neg (by decide), if_neg (by decide), if_neg (by decide), if_neg (by decide), if_neg (by decide), if_neg (by decide), if_pos rfl, xorS_eq hr.1 hc]
    rfl
  by_cases b16 : b = 16
  · subst b16
    rw [if_neg (by decide), if_pos (by decide), if_neg (by decide), if_neg (by decide), if_neg (by decide), if_neg (by decide), if_neg (by decide), if_neg (by decide), if_neg (by decide), if_neg (by decide), if_neg (by decide), if_neg (by decide), if_neg (by decide), if_neg (by decide), if_neg (by decide), if_neg (by decide), if_neg (by decide), if_neg (by decide), if_pos rfl, q2.1.1]
    rfl
  by_cases b17 : b = 17
  · subst b17
    rw [if_neg (by decide), if_pos (by decide), if_neg (by decide), if_neg (by decide), if_neg (by decide), if_neg (by decide), if_neg (by decide), if_neg (by decide), if_neg (by decide), if_neg (by decide), if_neg (by decide), if_neg (by decide), if_neg (by decide), if_neg (by decide), if_neg (by decide), if_neg (by decide), if_neg (by decide), if_neg (by decide), if_neg (by decide), if_pos rfl, q2.2.2.2.2.2.2.1.1]
    rfl
  have t0 := tne b0 (a := 0) rfl
  have t1 := tne b1 (a := 1) rfl
  have t2 := tne b2 (a := 2) rfl
  have t3 := tne b3 (a := 3) rfl
  have t4 := tne b4 (a := 4) rfl
  have t5 := tne b5 (a := 5) rfl
  have t6 := tne b6 (a := 6) rfl
  have t7 := tne b7 (a := 7) rfl
  have t8 := tne b8 (a := 8) rfl
  have t9 := tne b9 (a := 9) rfl
  have t10 := tne b10 (a := 10) rfl
  have t11 := tne b11 (a := 11) rfl
  have t12 := tne b12 (a := 12) rfl
  have t13 := tne b13 (a := 13) rfl
  have t14 := tne b14 (a := 14) rfl
  have t15 := tne b15 (a := 15) rfl
  have t16 := tne b16 (a := 16) rfl
  have t17 := tne b17 (a := 17) rfl
  have u : b.toInt < 3 ∨ 7 < b.toInt := by omega
  simp only [tlt b 3, tlt 7 b, show (3 : Int32).toInt = 3 from rfl, show (7 : Int32).toInt = 7 from rfl, b0, b1, b2, b3, b4, b5, b6, b7, b8, b9, b10, b11, b12, b13, b14, b15, b16, b17, if_false]
  rcases u with u | u
  · rw [if_pos u]
  · rw [if_neg (by omega), if_pos u]
theorem e_count_0 {K : Int} {Z : Zt} (hI : InvZ K Z) {σ : Sto} (hr : RCl σ Z)  : dc_X9_count (0 : Int32) σ = some (Z.1 0, σ) := by
  rw [e_count hI hr  (0 : Int32), if_pos rfl]
theorem e_count_2 {K : Int} {Z : Zt} (hI : InvZ K Z) {σ : Sto} (hr : RCl σ Z)  : dc_X9_count (2 : Int32) σ = some (Z.1 2, σ) := by
  rw [e_count hI hr  (2 : Int32), if_neg (by decide), if_neg (by decide), if_pos rfl]
theorem e_count_8 {K : Int} {Z : Zt} (hI : InvZ K Z) {σ : Sto} (hr : RCl σ Z)  : dc_X9_count (8 : Int32) σ = some (Z.1 3, σ) := by
  rw [e_count hI hr  (8 : Int32), if_neg (by decide), if_neg (by decide), if_neg (by decide), if_neg (by decide), if_neg (by decide), if_neg (by decide), if_neg (by decide), if_neg (by decide), if_pos rfl]
theorem e_count_9 {K : Int} {Z : Zt} (hI : InvZ K Z) {σ : Sto} (hr : RCl σ Z)  : dc_X9_count (9 : Int32) σ = some (Z.1 4, σ) := by
  rw [e_count hI hr  (9 : Int32), if_neg (by decide), if_neg (by decide), if_neg (by decide), if_neg (by decide), if_neg (by decide), if_neg (by decide), if_neg (by decide), if_neg (by decide), if_neg (by decide), if_pos rfl]
theorem e_count_10 {K : Int} {Z : Zt} (hI : InvZ K Z) {σ : Sto} (hr : RCl σ Z)  : dc_X9_count (10 : Int32) σ = some (Z.1 5, σ) := by
  rw [e_count hI hr  (10 : Int32), if_neg (by decide), if_neg (by decide), if_neg (by decide), if_neg (by decide), if_neg (by decide), if_neg (by decide), if_neg (by decide), if_neg (by decide), if_neg (by decide), if_neg (by decide), if_pos rfl]
theorem e_count_11 {K : Int} {Z : Zt} (hI : InvZ K Z) {σ : Sto} (hr : RCl σ Z)  : dc_X9_count (11 : Int32) σ = some (xaPr Z.1, σ) := by
  rw [e_count hI hr  (11 : Int32), if_neg (by decide), if_neg (by decide), if_neg (by decide), if_neg (by decide), if_neg (by decide), if_neg (by decide), if_neg (by decide), if_neg (by decide), if_neg (by decide), if_neg (by decide), if_neg (by decide), if_pos rfl]
theorem e_count_12 {K : Int} {Z : Zt} (hI : InvZ K Z) {σ : Sto} (hr : RCl σ Z)  : dc_X9_count (12 : Int32) σ = some (xaIn Z.1, σ) := by
  rw [e_count hI hr  (12 : Int32), if_neg (by decide), if_neg (by decide), if_neg (by decide), if_neg (by decide), if_neg (by decide), if_neg (by decide), if_neg (by decide), if_neg (by decide), if_neg (by decide), if_neg (by decide), if_neg (by decide), if_neg (by decide), if_pos rfl]
theorem e_count_13 {K : Int} {Z : Zt} (hI : InvZ K Z) {σ : Sto} (hr : RCl σ Z)  : dc_X9_count (13 : Int32) σ = some (xaLo Z.1, σ) := by
  rw [e_count hI hr  (13 : Int32), if_neg (by decide), if_neg (by decide), if_neg (by decide), if_neg (by decide), if_neg (by decide), if_neg (by decide), if_neg (by decide), if_neg (by decide), if_neg (by decide), if_neg (by decide), if_neg (by decide), if_neg (by decide), if_neg (by decide), if_pos rfl]
theorem e_count_14 {K : Int} {Z : Zt} (hI : InvZ K Z) {σ : Sto} (hr : RCl σ Z)  : dc_X9_count (14 : Int32) σ = some (xinA Z.1, σ) := by
  rw [e_count hI hr  (14 : Int32), if_neg (by decide), if_neg (by decide), if_neg (by decide), if_neg (by decide), if_neg (by decide), if_neg (by decide), if_neg (by decide), if_neg (by decide), if_neg (by decide), if_neg (by decide), if_neg (by decide), if_neg (by decide), if_neg (by decide), if_neg (by decide), if_pos rfl]
theorem e_count_15 {K : Int} {Z : Zt} (hI : InvZ K Z) {σ : Sto} (hr : RCl σ Z)  : dc_X9_count (15 : Int32) σ = some (xorS Z.1, σ) := by
  rw [e_count hI hr  (15 : Int32), if_neg (by decide), if_neg (by decide), if_neg (by decide), if_neg (by decide), if_neg (by decide), if_neg (by decide), if_neg (by decide), if_neg (by decide), if_neg (by decide), if_neg (by decide), if_neg (by decide), if_neg (by decide), if_neg (by decide), if_neg (by decide), if_neg (by decide), if_pos rfl]
theorem e_count_18 {K : Int} {Z : Zt} (hI : InvZ K Z) {σ : Sto} (hr : RCl σ Z)  : dc_X9_count (18 : Int32) σ = some (-2, σ) := by
  rw [e_count hI hr  (18 : Int32), if_neg (by decide), if_neg (by decide), if_neg (by decide), if_neg (by decide), if_neg (by decide), if_neg (by decide), if_neg (by decide), if_neg (by decide), if_neg (by decide), if_neg (by decide), if_neg (by decide), if_neg (by decide), if_neg (by decide), if_neg (by decide), if_neg (by decide), if_neg (by decide), if_neg (by decide), if_neg (by decide)]
