/-! months pass: all loans -/
theorem monL_out {m : Mt} {p k : Nat} (h : ¬ (p + 6 ≤ k ∧ k ≤ p + 10)) : monL m p k = m k := by
  unfold monL
  rw [upd_ne (by omega), upd_ne (by omega), upd_ne (by omega), upd_ne (by omega), upd_ne (by omega)]
theorem monL_6 {m : Mt} {p : Nat} : monL m p (p + 6) = mInt m p := by unfold monL; rw [upd_ne (by omega), upd_eq]
theorem monL_7 {m : Mt} {p : Nat} : monL m p (p + 7) = mDue m p := by unfold monL; rw [upd_eq]
theorem monL_8 {m : Mt} {p : Nat} : monL m p (p + 8) = mArr m p := by unfold monL; rw [upd_ne (by omega), upd_ne (by omega), upd_eq]
theorem monL_9 {m : Mt} {p : Nat} : monL m p (p + 9) = mSrv m p := by unfold monL; rw [upd_ne (by omega), upd_ne (by omega), upd_ne (by omega), upd_ne (by omega), upd_eq]
theorem monL_10 {m : Mt} {p : Nat} : monL m p (p + 10) = -5 := by unfold monL; rw [upd_ne (by omega), upd_ne (by omega), upd_ne (by omega), upd_eq]
theorem monL_congr {m m' : Mt} {p : Nat} (h : ∀ w, w < 11 → m' (p + w) = m (p + w)) {k : Nat} (hk : p ≤ k ∧ k < p + 11) : monL m' p k = monL m p k := by
  have e0 := h 0 (by omega)
  have e1 := h 1 (by omega)
  have e4 := h 4 (by omega)
  have e5 := h 5 (by omega)
  have e6 := h 6 (by omega)
  have e7 := h 7 (by omega)
  have e8 := h 8 (by omega)
  have e9 := h 9 (by omega)
  have e10 := h 10 (by omega)
  obtain ⟨w, hw, rfl⟩ : ∃ w, w < 11 ∧ k = p + w := ⟨k - p, by omega, by omega⟩
  rcases (show w < 6 ∨ w = 6 ∨ w = 7 ∨ w = 8 ∨ w = 9 ∨ w = 10 by omega) with q | rfl | rfl | rfl | rfl | rfl
  · rw [monL_out (by omega), monL_out (by omega)]; exact h w hw
  · rw [monL_6, monL_6]; unfold mInt; rw [e6, e4, e1]
  · rw [monL_7, monL_7]; unfold mDue; rw [e7, e4, e5]
  · rw [monL_8, monL_8]; unfold mArr; rw [e6, e7, e8]
  · rw [monL_9, monL_9]; unfold mSrv; rw [e9, e10]
  · rw [monL_10, monL_10]
def monI (m : Mt) (i : Nat) : Mt := fun k => if 34 ≤ k ∧ k < 34 + 11 * i ∧ m (34 + 11 * ((k - 34) / 11) + 3) = 1 then monL m (34 + 11 * ((k - 34) / 11)) k else m k
theorem monI_0 (m : Mt) : monI m 0 = m := funext fun k => if_neg (by omega)
theorem monI_out {m : Mt} {i k : Nat} (h : ¬ (34 ≤ k ∧ k < 34 + 11 * i)) : monI m i k = m k := if_neg fun q => h ⟨q.1, q.2.1⟩
theorem monI_in {m : Mt} {i l w : Nat} (hl : l < i) (hw : w < 11) : monI m i (34 + 11 * l + w) = if m (34 + 11 * l + 3) = 1 then monL m (34 + 11 * l) (34 + 11 * l + w) else m (34 + 11 * l + w) := by
  unfold monI
  have e : (34 + 11 * l + w - 34) / 11 = l := by omega
  rw [e]
  by_cases c : m (34 + 11 * l + 3) = 1
  · rw [if_pos ⟨by omega, by omega, c⟩, if_pos c]
  · rw [if_neg (fun q => c q.2.2), if_neg c]
theorem monI_succ {m : Mt} {i : Nat} : monI m (i + 1) = if m (34 + 11 * i + 3) = 1 then monL (monI m i) (34 + 11 * i) else monI m i := by
  funext k
  by_cases hin : 34 + 11 * i ≤ k ∧ k < 34 + 11 * i + 11
  · obtain ⟨w, hw, rfl⟩ : ∃ w, w < 11 ∧ k = 34 + 11 * i + w := ⟨k - (34 + 11 * i), by omega, by omega⟩
    rw [monI_in (by omega) hw]
    by_cases c : m (34 + 11 * i + 3) = 1
    · rw [if_pos c, if_pos c]
      exact (monL_congr (fun w hw => monI_out (by omega)) ⟨by omega, by omega⟩).symm
    · rw [if_neg c, if_neg c, monI_out (by omega)]
  · have e : monI m (i + 1) k = monI m i k := by
      by_cases c : 34 ≤ k ∧ k < 34 + 11 * i
      · obtain ⟨l, w, hl, hw, rfl⟩ : ∃ l w, l < i ∧ w < 11 ∧ k = 34 + 11 * l + w := ⟨(k - 34) / 11, (k - 34) % 11, by omega, by omega, by omega⟩
        rw [monI_in (by omega) hw, monI_in hl hw]
      · rw [monI_out (by omega), monI_out c]
    rw [e]
    by_cases c : m (34 + 11 * i + 3) = 1
    · rw [if_pos c, monL_out (by omega)]
    · rw [if_neg c]
def mon (m : Mt) : Mt := monI m (nb m)
theorem Cnt.same {m m' : Mt} (h : Cnt m) (h1 : m' 1 = m 1) (h2 : m' 2 = m 2) (h3 : m' 3 = m 3) : Cnt m' := by unfold Cnt; rw [h1, h2, h3]; exact h
theorem LoK.congr {m m' : Mt} {p : Nat} (h0 : m' 0 = m 0) (h : ∀ w, w < 11 → m' (p + w) = m (p + w)) (hk : LoK m p) : LoK m' p := by
  unfold LoK at hk ⊢
  have := h 0 (by omega)
  rw [Nat.add_zero] at this
  rw [h0, this, h 1 (by omega), h 2 (by omega), h 3 (by omega), h 4 (by omega), h 5 (by omega), h 6 (by omega), h 7 (by omega), h 8 (by omega), h 9 (by omega), h 10 (by omega)]
  exact hk
theorem pmonth_c {σ : Sto} {m : Mt} (hc : Cnt m) (h : Cla σ 0 m) : ∃ τ, dc_X5_passMonth 0 σ = some τ ∧ FrJ 0 σ τ ∧ Cla τ 0 (mon (upd m 0 (m 0 + 1))) := by
  unfold dc_X5_passMonth
  have hc1 : Cnt (upd m 0 (m 0 + 1)) := hc.same (upd_ne (by omega)) (upd_ne (by omega)) (upd_ne (by omega))
  obtain ⟨eb, hb⟩ := hc1.b
  refine wh1_inv (T := fun o => ∃ τ, o = some τ ∧ FrJ 0 σ τ ∧ Cla τ 0 (mon (upd m 0 (m 0 + 1)))) (fun i τ => FrJ 0 σ τ ∧ Cla τ 0 (monI (upd m 0 (m 0 + 1)) i)) (nb (upd m 0 (m 0 + 1))) (by omega) (fun i τ hi hP => ?_) (fun τ hP rec => ?_) ⟨FrJ_up rfl (FrJ.refl 0 σ), by rw [monI_0, h.1.1]; exact Cla_up87 h⟩
  · obtain ⟨hF, hC⟩ := hP
    have hci : Cnt (monI (upd m 0 (m 0 + 1)) i) := hc1.same (monI_out (by omega)) (monI_out (by omega)) (monI_out (by omega))
    have e2 : τ.1 85 0 0 = nI (nb (upd m 0 (m 0 + 1))) := hC.1.2.2.1.trans ((monI_out (by omega)).trans eb)
    have hl : i < nb (monI (upd m 0 (m 0 + 1)) i) := by unfold nb at hi ⊢; rw [monI_out (by omega)]; exact hi
    have e3 : monI (upd m 0 (m 0 + 1)) i (34 + 11 * i + 3) = upd m 0 (m 0 + 1) (34 + 11 * i + 3) := monI_out (by omega)
    by_cases c : upd m 0 (m 0 + 1) (34 + 11 * i + 3) = 1
    · obtain ⟨υ, u1, u2, u3⟩ := monL_c (l := i) (by omega) hC
      refine ⟨υ, ⟨hF.trans u2, by rw [monI_succ, if_pos c]; exact u3⟩, fun rec => ?_⟩
      rw [e2, if_neg (by rw [nI_leI (by omega) (by omega)]; omega), xruns_eq hC hci hl, bd_s, e3, if_pos c, if_neg (by decide), if_pos (inb_nI (show i < 10 by omega) (by decide)), nI_clamp (by omega), u1, bv_s, nI_1]
    · refine ⟨τ, ⟨hF, by rw [monI_succ, if_neg c]; exact hC⟩, fun rec => ?_⟩
      rw [e2, if_neg (by rw [nI_leI (by omega) (by omega)]; omega), xruns_eq hC hci hl, bd_s, e3, if_neg c, if_pos rfl, nI_1]
  · obtain ⟨hF, hC⟩ := hP
    have e2 : τ.1 85 0 0 = nI (nb (upd m 0 (m 0 + 1))) := hC.1.2.2.1.trans ((monI_out (by omega)).trans eb)
    rw [e2, if_pos (by rw [nI_leI (by omega) (by omega)]; omega)]
    exact ⟨τ, rfl, hF, hC⟩
theorem monI_t {m : Mt} {i : Nat} {v : Int32} : monI (upd m 0 v) i = upd (monI m i) 0 v := by
  funext k
  by_cases c : 34 ≤ k ∧ k < 34 + 11 * i
  · obtain ⟨l, w, hl, hw, rfl⟩ : ∃ l w, l < i ∧ w < 11 ∧ k = 34 + 11 * l + w := ⟨(k - 34) / 11, (k - 34) % 11, by omega, by omega, by omega⟩
    rw [monI_in hl hw, upd_ne (show 34 + 11 * l + 3 ≠ 0 by omega), upd_ne (f := m) (show 34 + 11 * l + w ≠ 0 by omega), upd_ne (f := monI m i) (show 34 + 11 * l + w ≠ 0 by omega), monI_in hl hw]
    by_cases c2 : m (34 + 11 * l + 3) = 1
    · rw [if_pos c2, if_pos c2]
      exact monL_congr (fun w hw => upd_ne (by omega)) ⟨by omega, by omega⟩
    · rw [if_neg c2, if_neg c2]
  · rw [monI_out c]
    by_cases e : k = 0
    · rw [e, upd_eq, upd_eq]
    · rw [upd_ne e, upd_ne e, monI_out c]
theorem mon_t {m : Mt} {v : Int32} : mon (upd m 0 v) = upd (mon m) 0 v := by
  unfold mon
  rw [show nb (upd m 0 v) = nb m by unfold nb; rw [upd_ne (by omega)]]
  exact monI_t
theorem pmonth_m {σ : Sto} {Z : Zt} {m : Mt} {R : Type} (hc : Cnt m) (h : RMid σ Z m 0) (hL : ∀ l, l < nb m → (0 ≤ (m (34 + 11 * l + 6)).toInt ∧ (m (34 + 11 * l + 6)).toInt ≤ 1200000) ∧ 0 ≤ (m (34 + 11 * l + 7)).toInt ∧ (m (34 + 11 * l + 7)).toInt ≤ 99999) (K : Sto → Option R) :
    ∃ τ, RMid τ Z (mon m) 0 ∧ SameC σ τ ∧ wh1 (fun (rec12 : Int32 → Sto → Option R) (x14 : Int32) (σ13 : Sto) => (if inb (2 : Int32) 564 then (if (σ13.1 304 0 (2 : Int32).toNatClampNeg) ≤ x14 then K σ13 else (bd (dc_X10_runs x14 σ13) fun r15 σ16 => (if r15 = 0 then rec12 (x14 + 1) σ16 else (bv (dc_X10_month x14 σ16) fun σ18 => rec12 (x14 + 1) σ18)))) else none)) FU (0 : Int32) σ = K τ := by
  obtain ⟨eb, hb⟩ := hc.b
  refine wh1_inv (T := fun o => ∃ τ, RMid τ Z (mon m) 0 ∧ SameC σ τ ∧ o = K τ) (fun i τ => RMid τ Z (monI m i) 0 ∧ SameC σ τ) (nb m) (by omega) (fun i τ hi hP => ?_) (fun τ hP rec => ?_) ⟨by rw [monI_0]; exact h, SameC.refl σ⟩
  · obtain ⟨hM, hS⟩ := hP
    have e2 : τ.1 304 0 2 = nI (nb m) := (hM.1 2 (by decide)).trans ((monI_out (by omega)).trans eb)
    have e3 : monI m i (34 + 11 * i + 3) = m (34 + 11 * i + 3) := monI_out (by omega)
    by_cases c : m (34 + 11 * i + 3) = 1
    · obtain ⟨υ, u1, u2, u3⟩ := monL_m (l := i) (by omega) hM (by rw [monI_out (by omega)]; exact (hL i hi).1) (by rw [monI_out (by omega)]; exact (hL i hi).2)
      refine ⟨υ, ⟨by rw [monI_succ, if_pos c]; exact u2, hS.trans u3⟩, fun rec => ?_⟩
      rw [if_pos ib_2, cl_2, e2, if_neg (by rw [nI_leI (by omega) (by omega)]; omega), runs_eq hM.1 (by omega), bd_s, e3, if_pos c, if_neg (by decide), u1, bv_s, nI_1]
    · refine ⟨τ, ⟨by rw [monI_succ, if_neg c]; exact hM, hS⟩, fun rec => ?_⟩
      rw [if_pos ib_2, cl_2, e2, if_neg (by rw [nI_leI (by omega) (by omega)]; omega), runs_eq hM.1 (by omega), bd_s, e3, if_neg c, if_pos rfl, nI_1]
  · obtain ⟨hM, hS⟩ := hP
    have e2 : τ.1 304 0 2 = nI (nb m) := (hM.1 2 (by decide)).trans ((monI_out (by omega)).trans eb)
    rw [if_pos ib_2, cl_2, e2, if_pos (by rw [nI_leI (by omega) (by omega)]; omega)]
    exact ⟨τ, hM, hS, rfl⟩
theorem LoK_mon {m : Mt} {p : Nat} (h : LoK m p) (hs : m (p + 3) = 1) (hp : 1 ≤ p) (ht : 0 ≤ (m 0).toInt ∧ (m 0).toInt + 1 ≤ 240) {m' : Mt} (h0 : m' 0 = m 0 + 1) (hm : ∀ w, w < 11 → m' (p + w) = monL m p (p + w)) : LoK m' p := by
  obtain ⟨k1, k2, k3, k4, k5, k6, k7, k8, k9, k10, k11, k12⟩ := h
  have k6 := k6 hs
  have z0 : (0 : Int32).toInt = 0 := rfl
  have t0 : (m 0 + 1).toInt = (m 0).toInt + 1 := by
    rw [tadd] <;> rw [show (1 : Int32).toInt = 1 from rfl] <;> omega
  have g : ∀ w, w < 6 → m' (p + w) = m (p + w) := fun w hw => by rw [hm w (by omega), monL_out (by omega)]
  have g0 := g 0 (by omega)
  rw [Nat.add_zero] at g0
  have b1 : 0 ≤ (m (p + 4)).toInt * (m (p + 1)).toInt := Int.mul_nonneg k5.1 k2.1
  have b2 : (m (p + 4)).toInt * (m (p + 1)).toInt ≤ 99999 * 50 := Int.mul_le_mul k5.2 k2.2 k2.1 (by decide)
  have em : (m (p + 4) * m (p + 1)).toInt = (m (p + 4)).toInt * (m (p + 1)).toInt := tmul (by omega) (by omega)
  have ed : (m (p + 4) * m (p + 1) / 1000).toInt = (m (p + 4)).toInt * (m (p + 1)).toInt / 1000 := by
    rw [tdiv (by omega) (by decide), em]
    rfl
  have ei : (mInt m p).toInt = (m (p + 6)).toInt + (m (p + 4)).toInt * (m (p + 1)).toInt / 1000 := by
    unfold mInt
    rw [tadd] <;> rw [ed] <;> omega
  have eds : (m (p + 7) + m (p + 5)).toInt = (m (p + 7)).toInt + (m (p + 5)).toInt := tadd (by omega) (by omega)
  have eD : 0 ≤ (mDue m p).toInt ∧ (mDue m p).toInt ≤ (m (p + 4)).toInt := by
    unfold mDue jmin
    by_cases c : m (p + 7) + m (p + 5) < m (p + 4)
    · rw [if_pos c]
      rw [tlt] at c
      omega
    · rw [if_neg c]; omega
  have eA : 0 ≤ (mArr m p).toInt ∧ (mArr m p).toInt ≤ (m 0).toInt + 1 := by
    have e1 : (m (p + 8) + 1).toInt = (m (p + 8)).toInt + 1 := by
      rw [tadd] <;> rw [show (1 : Int32).toInt = 1 from rfl] <;> omega
    unfold mArr
    by_cases c : 0 < m (p + 6)
    · rw [if_pos c, e1]; omega
    · rw [if_neg c]
      by_cases c2 : m (p + 7) ≤ 0
      · rw [if_pos c2, z0]; omega
      · rw [if_neg c2, e1]; omega
  have eS : 0 ≤ (mSrv m p).toInt ∧ (mSrv m p).toInt ≤ 3 := by
    unfold mSrv
    by_cases c : m (p + 10) = -5
    · rw [if_pos c]; exact k10
    · rw [if_neg c]; exact k11.resolve_left c
  unfold LoK
  rw [h0, t0, g0, g 1 (by omega), g 2 (by omega), g 3 (by omega), g 4 (by omega), g 5 (by omega), hm 6 (by omega), hm 7 (by omega), hm 8 (by omega), hm 9 (by omega), hm 10 (by omega), monL_6, monL_7, monL_8, monL_9, monL_10]
  refine ⟨k1, k2, k3, k4, k5, fun _ => k6, ?_, eD, eA, eS, Or.inl rfl, fun z => absurd hs z⟩
  rw [ei]
  omega
theorem InvM_mon {K : Int} {m : Mt} (h : InvM K m) (ht : (m 0).toInt + 1 ≤ 240) : InvM K (mon (upd m 0 (m 0 + 1))) := by
  obtain ⟨i1, i2, i3, i4, i5, i6, i7, i8, i9⟩ := h
  rw [mon_t]
  have hb := i1.b.2
  have t0 : (m 0 + 1).toInt = (m 0).toInt + 1 := by
    rw [tadd] <;> rw [show (1 : Int32).toInt = 1 from rfl] <;> omega
  have g : ∀ k, k ≠ 0 → ¬ (34 ≤ k ∧ k < 34 + 11 * nb m) → upd (mon m) 0 (m 0 + 1) k = m k := fun k h1 h2 => by rw [upd_ne h1]; exact monI_out h2
  have nb' : nb (upd (mon m) 0 (m 0 + 1)) = nb m := by unfold nb; rw [g 2 (by omega) (by omega)]
  have nc' : nc (upd (mon m) 0 (m 0 + 1)) = nc m := by unfold nc; rw [g 3 (by omega) (by omega)]
  have gs : ∀ l, l < nb m → ∀ w, w < 6 → upd (mon m) 0 (m 0 + 1) (34 + 11 * l + w) = m (34 + 11 * l + w) := fun l hl w hw => by
    rw [upd_ne (by omega)]
    unfold mon
    rw [monI_in hl (by omega)]
    by_cases c : m (34 + 11 * l + 3) = 1
    · rw [if_pos c, monL_out (by omega)]
    · rw [if_neg c]
  refine ⟨i1.same (g 1 (by omega) (by omega)) (g 2 (by omega) (by omega)) (g 3 (by omega) (by omega)), by rw [upd_eq, t0]; omega, by rw [g 5 (by omega) (by omega)]; exact i3, by rw [g 4 (by omega) (by omega)]; exact i4, fun i hi => by rw [g _ (by omega) (by omega)]; exact i5 i hi, fun l hl => ?_, fun n hn => ?_, fun l hl => ?_, fun i h1 h2 => ?_⟩
  · rw [nb'] at hl
    have q := i6 l hl
    by_cases c : m (34 + 11 * l + 3) = 1
    · refine LoK_mon q c (by omega) ⟨i2.1, ht⟩ upd_eq (fun w hw => ?_)
      rw [upd_ne (by omega)]
      unfold mon
      rw [monI_in hl hw, if_pos c]
    · have e : ∀ w, w < 11 → upd (mon m) 0 (m 0 + 1) (34 + 11 * l + w) = m (34 + 11 * l + w) := fun w hw => by
        rw [upd_ne (by omega)]
        unfold mon
        rw [monI_in hl hw, if_neg c]
      obtain ⟨k1, k2, k3, k4, k5, k6, k7, k8, k9, k10, k11, k12⟩ := q
      have e0 := e 0 (by omega)
      rw [Nat.add_zero] at e0
      unfold LoK
      rw [upd_eq, t0, e0, e 1 (by omega), e 2 (by omega), e 3 (by omega), e 4 (by omega), e 5 (by omega), e 6 (by omega), e 7 (by omega), e 8 (by omega), e 9 (by omega), e 10 (by omega)]
      exact ⟨k1, k2, k3, k4, k5, k6, by omega, k8, by omega, k10, k11, k12⟩
  · rw [nc'] at hn
    obtain ⟨u1, u2, u3, u4, u5⟩ := i7 n hn
    have ul : (m (144 + 7 * n + 1)).toNatClampNeg < nb m := by
      have := clI u2.1
      have := clI i1.2.1.1
      have := u2.2
      unfold nb
      omega
    unfold NoK isI isL
    rw [g 1 (by omega) (by omega), g 2 (by omega) (by omega), g (144 + 7 * n) (by omega) (by omega), g (144 + 7 * n + 1) (by omega) (by omega), g (144 + 7 * n + 2) (by omega) (by omega), g (144 + 7 * n + 3) (by omega) (by omega), g (144 + 7 * n + 6) (by omega) (by omega), gs _ ul 3 (by omega)]
    exact ⟨u1, u2, u3, u4, u5⟩
  · rw [nb'] at hl
    have q := i8 l hl
    have e0 := gs l hl 0 (by omega)
    rw [Nat.add_zero] at e0
    unfold SmK at q ⊢
    rw [siN_out (m := m) (g 3 (by omega) (by omega)) (fun k hk => g k (by omega) (by omega)), e0, gs l hl 3 (by omega), gs l hl 4 (by omega)]
    exact q
  · rw [g _ (by omega) (by omega), g _ (by omega) (by omega)]
    exact i9 i (by unfold na at h1 ⊢; rw [g 1 (by omega) (by omega)] at h1; exact h1) h2
/-- a counted loop, the rest asked of what comes behind -/
theorem wh1_cps {R : Type} {b : (Int32 → Sto → Option R) → Int32 → Sto → Option R} {T : Option R → Prop} (P : Nat → Sto → Prop) (N : Nat) (hN : N < 100000)
    (h : ∀ (i : Nat) (σ : Sto), i ≤ N → P i σ → ∀ rec : Int32 → Sto → Option R, (i < N → ∀ τ, P (i + 1) τ → T (rec (nI (i + 1)) τ)) → T (b rec (nI i) σ)) {σ : Sto} (h0 : P 0 σ) : T (wh1 b FU (0 : Int32) σ) := by
  have key : ∀ (k i : Nat) (σ : Sto) (f : Nat), i + k = N → k < f → P i σ → T (wh1 b f (nI i) σ) := by
    intro k
    induction k with
    | zero =>
      intro i σ f hi hf hP
      obtain ⟨f, rfl⟩ : ∃ z, f = z + 1 := ⟨f - 1, by omega⟩
      exact h i σ (by omega) hP _ (fun q => absurd q (by omega))
    | succ k ih =>
      intro i σ f hi hf hP
      obtain ⟨f, rfl⟩ : ∃ z, f = z + 1 := ⟨f - 1, by omega⟩
      exact h i σ (by omega) hP _ (fun _ τ hτ => ih (i + 1) τ f (by omega) (by omega) hτ)
  exact key N 0 σ FU (by omega) hN h0
/-- k months -/
def mons (m : Mt) : Nat → Mt
  | 0 => m
  | k + 1 => mon (mons m k)
def mont (m : Mt) (k : Nat) : Mt := upd (mons m k) 0 (m 0 + nI k)
theorem mons_low {m : Mt} {i : Nat} (hi : i < 34) : ∀ k, mons m k i = m i
  | 0 => rfl
  | k + 1 => by
    show mon (mons m k) i = m i
    unfold mon
    rw [monI_out (by omega)]
    exact mons_low hi k
theorem mont_succ (m : Mt) (k : Nat) : mont m (k + 1) = mon (upd (mont m k) 0 (mont m k 0 + 1)) := by
  unfold mont
  rw [upd_eq, mon_t, mon_t]
  show upd (mon (mons m k)) 0 _ = upd (upd (mon (mons m k)) 0 _) 0 _
  rw [Int32.add_assoc, nI_1]
  funext i
  by_cases e : i = 0
  · rw [e, upd_eq, upd_eq]
  · rw [upd_ne e, upd_ne e, upd_ne e]
theorem mont_0 (m : Mt) : mont m 0 = m := by
  unfold mont
  rw [show nI 0 = 0 from rfl, Int32.add_zero]
  exact upd_self m 0
theorem mont_t {m : Mt} {k : Nat} : mont m k 0 = m 0 + nI k := upd_eq
theorem InvM_mont {K : Int} {m : Mt} (h : InvM K m) : ∀ k : Nat, (m 0).toInt + k ≤ 240 → InvM K (mont m k)
  | 0, _ => by rw [mont_0]; exact h
  | k + 1, hk => by
    rw [mont_succ]
    have ih := InvM_mont h k (by omega)
    refine InvM_mon ih ?_
    rw [mont_t]
    have e : (m 0 + nI k).toInt = (m 0).toInt + k := by
      have h21 := h.2.1
      rw [tadd] <;> rw [nI_toInt (by omega)] <;> omega
    rw [e]
    omega
theorem mont_cnt {m : Mt} (h : Cnt m) (k : Nat) : Cnt (mont m k) := h.same ((upd_ne (by omega)).trans (mons_low (by omega) k)) ((upd_ne (by omega)).trans (mons_low (by omega) k)) ((upd_ne (by omega)).trans (mons_low (by omega) k))
/-- the class's months -/
theorem pass_c {σ : Sto} {m : Mt} {n : Nat} (hn : n ≤ 24) (hc : Cnt m) (h : Cla σ 0 m) : ∃ τ, wh1 (fun (rec3 : Int32 → Sto → Option (Int32 × Sto)) (x5 : Int32) (σ4 : Sto) => (if nI n ≤ x5 then (bd (dc_X5_loansInArrears 0 σ4) fun r6 σ7 => some (r6, σ7)) else (bv (dc_X5_passMonth 0 σ4) fun σ9 => rec3 (x5 + 1) σ9))) FU (0 : Int32) σ = some (xinA (mont m n), τ) ∧ FrJ 0 σ τ ∧ Cla τ 0 (mont m n) := by
  refine wh1_inv (T := fun o => ∃ τ, o = some (xinA (mont m n), τ) ∧ FrJ 0 σ τ ∧ Cla τ 0 (mont m n)) (fun i τ => FrJ 0 σ τ ∧ Cla τ 0 (mont m i)) n (by omega) (fun i τ hi hP => ?_) (fun τ hP rec => ?_) ⟨FrJ.refl 0 σ, by rw [mont_0]; exact h⟩
  · obtain ⟨hF, hC⟩ := hP
    obtain ⟨υ, u1, u2, u3⟩ := pmonth_c (mont_cnt hc i) hC
    refine ⟨υ, ⟨hF.trans u2, by rw [mont_succ]; exact u3⟩, fun rec => ?_⟩
    rw [if_neg (by rw [nI_leI (by omega) (by omega)]; omega), u1, bv_s, nI_1]
  · rw [if_pos (by rw [nI_leI (by omega) (by omega)]; omega), xinA_eq hP.2 (mont_cnt hc n), bd_s]
    exact ⟨τ, rfl, hP.1, hP.2⟩
theorem pass_m {σ : Sto} {Z : Zt} {m : Mt} {K : Int} {n : Nat} (hn : n ≤ 24) (hI : InvM K m) (ht : (m 0).toInt + n ≤ 240) (h : RMid σ Z m 0) : ∃ τ, wh1 (fun (rec5 : Int32 → Sto → Option (Int32 × Sto)) (x7 : Int32) (σ6 : Sto) => (if nI n ≤ x7 then (if inb (0 : Int32) 564 then (if inb (0 : Int32) 564 then (bd (dc_X10_inArrears  (up σ6 304 0 (0 : Int32).toNatClampNeg ((σ6.1 304 0 (0 : Int32).toNatClampNeg) + nI n))) fun r8 σ9 => (bd (dc_X10_acted r8 σ9) fun r10 σ11 => some (r10, σ11))) else none) else none) else wh1 (fun (rec12 : Int32 → Sto → Option (Int32 × Sto)) (x14 : Int32) (σ13 : Sto) => (if inb (2 : Int32) 564 then (if (σ13.1 304 0 (2 : Int32).toNatClampNeg) ≤ x14 then rec5 (x7 + 1) σ13 else (bd (dc_X10_runs x14 σ13) fun r15 σ16 => (if r15 = 0 then rec12 (x14 + 1) σ16 else (bv (dc_X10_month x14 σ16) fun σ18 => rec12 (x14 + 1) σ18)))) else none)) FU (0 : Int32) σ6)) FU (0 : Int32) σ = some (xinA (mont m n), τ) ∧ RMo τ (pushZ Z (mont m n)) ∧ SameC σ τ := by
  refine wh1_cps (T := fun o => ∃ τ, o = some (xinA (mont m n), τ) ∧ RMo τ (pushZ Z (mont m n)) ∧ SameC σ τ) (fun i τ => RMid τ Z (mons m i) 0 ∧ SameC σ τ) n (by omega) (fun i τ hi hP rec hrec => ?_) ⟨h, SameC.refl σ⟩
  obtain ⟨hM, hS⟩ := hP
  by_cases hin : i < n
  · have hIi := InvM_mont hI i (by omega)
    have hci : Cnt (mons m i) := hI.1.same (mons_low (by omega) i) (mons_low (by omega) i) (mons_low (by omega) i)
    have nbi : nb (mont m i) = nb (mons m i) := by unfold nb mont; rw [upd_ne (by omega)]
    have hLL : ∀ l, l < nb (mons m i) → (0 ≤ (mons m i (34 + 11 * l + 6)).toInt ∧ (mons m i (34 + 11 * l + 6)).toInt ≤ 1200000) ∧ 0 ≤ (mons m i (34 + 11 * l + 7)).toInt ∧ (mons m i (34 + 11 * l + 7)).toInt ≤ 99999 := fun l hl => by
      obtain ⟨k1, k2, k3, k4, k5, k6, k7, k8, k9, k10, k11, k12⟩ := hIi.2.2.2.2.2.1 l (by rw [nbi]; exact hl)
      have e6 : mont m i (34 + 11 * l + 6) = mons m i (34 + 11 * l + 6) := upd_ne (by omega)
      have e7 : mont m i (34 + 11 * l + 7) = mons m i (34 + 11 * l + 7) := upd_ne (by omega)
      have ht0 := hIi.2.1.2
      rw [e6] at k7
      rw [e7] at k8
      omega
    obtain ⟨υ, u1, u2, u3⟩ := pmonth_m hci hM hLL (fun (σ13 : Sto) => rec (nI i + 1) σ13)
    show ∃ τ', (if nI n ≤ nI i then _ else _) = some (_, τ') ∧ _
    rw [if_neg (by rw [nI_leI (by omega) (by omega)]; omega), u3, nI_1]
    exact hrec hin υ ⟨u1, hS.trans u2⟩
  · have : i = n := by omega
    subst this
    have hIn := InvM_mont hI i ht
    have e0 : τ.1 304 0 0 = m 0 := (hM.1 0 (by decide)).trans (mons_low (by omega) i)
    have r1 : RMid _ Z (mont m i) 0 := RMid_now (k := 0) (v := m 0 + nI i) hM
    obtain ⟨υ, v1, v2, v3⟩ := acted_eq (xinA (mont m i)) r1
    show ∃ τ', (if nI i ≤ nI i then _ else _) = some (_, τ') ∧ _
    rw [if_pos (by rw [nI_leI (by omega) (by omega)]; omega), if_pos ib_0, if_pos ib_0, cl_0, e0, inA_eq r1.1 (mont_cnt hI.1 i), bd_s, inA_x hIn, v1, bd_s]
    exact ⟨υ, rfl, v2, hS.trans (SameC.trans (SameC_up (f := 304) rfl) v3)⟩
theorem q_pass {K : Int} {Z : Zt} (hI : InvZ K Z) (a : Int32) : Pair K Z (dc_X9_pass a) (dc_X10_pass a) := by
  have hc := hI.1.1
  have z1 : (1 : Int32).toInt = 1 := rfl
  have z24 : (24 : Int32).toInt = 24 := rfl
  have z240 : (240 : Int32).toInt = 240 := rfl
  have ht := hI.1.2.1
  by_cases h : (1 : Int32).toInt ≤ a.toInt ∧ a.toInt ≤ (24 : Int32).toInt
  · obtain ⟨n, hn, rfl⟩ : ∃ n, n ≤ 24 ∧ a = nI n := ⟨a.toNatClampNeg, by have := clI (x := a) (by omega); omega, nIe (by omega)⟩
    have en : (nI n).toInt = n := nI_toInt (by omega)
    have es : ((240 : Int32) - Z.1 0).toInt = 240 - (Z.1 0).toInt := by
      rw [tsub] <;> rw [z240] <;> omega
    have ea : (Z.1 0 + nI n).toInt = (Z.1 0).toInt + n := by
      rw [tadd] <;> rw [en] <;> omega
    by_cases h2 : (Z.1 0).toInt + n ≤ 240
    · refine Pair.act hI (xinA (mont Z.1 n)) (mont Z.1 n) (InvM_mont hI.1 n h2) (fun σ hr => ?_) (fun σ hr => ?_)
      · obtain ⟨σ1, p1, p2, p3⟩ := record_eq hr
        obtain ⟨τ, t1, t2, t3⟩ := pass_c hn hc p2.1
        refine ⟨σ1, τ, p3, p2, ?_, t2, t3⟩
        unfold dc_X9_pass
        rw [if_neg (by rw [tlt]; omega), if_pos (by rw [tle]; omega), hr.1.1.1, if_pos (by rw [tle, es, en]; omega), p1, bv_s]
        exact t1
      · obtain ⟨σ1, p1, p2, p3⟩ := aside_eq hr
        obtain ⟨τ, t1, t2, t3⟩ := pass_m hn hI.1 h2 p2
        refine ⟨τ, ?_, t2, p3.trans t3⟩
        unfold dc_X10_pass
        rw [p1, bv_s, in_eq, bd_s, rng, if_pos h, if_neg (by decide), if_pos ib_0]
        rw [if_pos (show (σ1.1 304 0 (0 : Int32).toNatClampNeg) + nI n ≤ 240 by rw [cl_0, p2.1 0 (by decide), tle, ea, z240]; exact h2)]
        exact t1
    · refine Pair.no hI (-4) (fun σ hr => ?_) (fun σ hr => ?_)
      · unfold dc_X9_pass
        rw [if_neg (by rw [tlt]; omega), if_pos (by rw [tle]; omega), hr.1.1.1, if_neg (by rw [tle, es, en]; omega)]
      · obtain ⟨σ1, p1, p2, p3⟩ := aside_eq hr
        unfold dc_X10_pass
        rw [p1, bv_s, in_eq, bd_s, rng, if_pos h, if_neg (by decide), if_pos ib_0]
        rw [if_neg (show ¬ (σ1.1 304 0 (0 : Int32).toNatClampNeg) + nI n ≤ 240 by rw [cl_0, p2.1 0 (by decide), tle, ea, z240]; exact h2)]
        exact ⟨σ1, rfl, p2.out, p3⟩
  · refine Pair.no hI (-2) (fun σ hr => ?_) (fun σ hr => ?_)
    · unfold dc_X9_pass
      by_cases c : a < 1
      · rw [if_pos c]
      · rw [if_neg c, if_neg (by rw [tle]; rw [tlt] at c; omega)]
    · obtain ⟨σ1, p1, p2, p3⟩ := aside_eq hr
      unfold dc_X10_pass
      rw [p1, bv_s, in_eq, bd_s, rng, if_neg h, if_pos rfl]
      exact ⟨σ1, rfl, p2.out, p3⟩
