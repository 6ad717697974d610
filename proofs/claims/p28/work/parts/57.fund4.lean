/-! a note is funded: the reference -/
theorem fu_pre {K : Int} {σ : Sto} {m : Mt} {i l : Nat} {k c : Int32} (hI : InvM K m) (h : Mod σ m) (hf : FeOk m i l c) : dc_X10_funds (nI i) (nI l) k c σ = wh1 (fun (rec11 : Int32 → Sto → Option (Int32 × Sto)) (x13 : Int32) (σ12 : Sto) => (if (7 : Int32) ≤ x13 then (if inb (((144 : Int32) + ((7 : Int32) * (σ.1 304 0 (3 : Int32).toNatClampNeg))) + (0 : Int32)) 564 then (if inb (((144 : Int32) + ((7 : Int32) * (σ.1 304 0 (3 : Int32).toNatClampNeg))) + (1 : Int32)) 564 then (lt (up (up σ12 304 0 (((144 : Int32) + ((7 : Int32) * (σ.1 304 0 (3 : Int32).toNatClampNeg))) + (0 : Int32)).toNatClampNeg (nI i)) 304 0 (((144 : Int32) + ((7 : Int32) * (σ.1 304 0 (3 : Int32).toNatClampNeg))) + (1 : Int32)).toNatClampNeg (nI l)) fun σ14 => (if inb (((144 : Int32) + ((7 : Int32) * (σ.1 304 0 (3 : Int32).toNatClampNeg))) + (2 : Int32)) 564 then (if inb (((144 : Int32) + ((7 : Int32) * (σ.1 304 0 (3 : Int32).toNatClampNeg))) + (3 : Int32)) 564 then (lt (up (up σ14 304 0 (((144 : Int32) + ((7 : Int32) * (σ.1 304 0 (3 : Int32).toNatClampNeg))) + (2 : Int32)).toNatClampNeg k) 304 0 (((144 : Int32) + ((7 : Int32) * (σ.1 304 0 (3 : Int32).toNatClampNeg))) + (3 : Int32)).toNatClampNeg c) fun σ15 => (if inb (((144 : Int32) + ((7 : Int32) * (σ.1 304 0 (3 : Int32).toNatClampNeg))) + (4 : Int32)) 564 then (if inb (3 : Int32) 564 then (if inb (3 : Int32) 564 then (lt (up (up σ15 304 0 (((144 : Int32) + ((7 : Int32) * (σ.1 304 0 (3 : Int32).toNatClampNeg))) + (4 : Int32)).toNatClampNeg c) 304 0 (3 : Int32).toNatClampNeg (((up σ15 304 0 (((144 : Int32) + ((7 : Int32) * (σ.1 304 0 (3 : Int32).toNatClampNeg))) + (4 : Int32)).toNatClampNeg c).1 304 0 (3 : Int32).toNatClampNeg) + (1 : Int32))) fun σ16 => (if inb ((10 : Int32) + ((3 : Int32) * (nI i))) 564 then (if inb ((10 : Int32) + ((3 : Int32) * (nI i))) 564 then (bd (dc_X10_missing (nI l) (up σ16 304 0 ((10 : Int32) + ((3 : Int32) * (nI i))).toNatClampNeg ((σ16.1 304 0 ((10 : Int32) + ((3 : Int32) * (nI i))).toNatClampNeg) - c))) fun r17 σ18 => (if r17 = 0 then (bv (dc_X10_be (nI l) (3 : Int32) (1 : Int32) σ18) fun σ20 => (bd (dc_X10_of (nI l) (0 : Int32) σ20) fun r21 σ22 => (bv (dc_X10_be (nI l) (4 : Int32) r21 σ22) fun σ24 => (bd (dc_X10_of (nI l) (0 : Int32) σ24) fun r25 σ26 => (bd (dc_X10_of (nI l) (2 : Int32) σ26) fun r27 σ28 => (bd (dc_X10_upwards r25 r27 σ28) fun r29 σ30 => (bv (dc_X10_be (nI l) (5 : Int32) r29 σ30) fun σ32 => some (r17, σ32)))))))) else some (r17, σ18))) else none) else none)) else none) else none) else none)) else none) else none)) else none) else none) else (if inb (((144 : Int32) + ((7 : Int32) * (σ.1 304 0 (3 : Int32).toNatClampNeg))) + x13) 564 then rec11 (x13 + 1) (up σ12 304 0 (((144 : Int32) + ((7 : Int32) * (σ.1 304 0 (3 : Int32).toNatClampNeg))) + x13).toNatClampNeg (0 : Int32)) else none))) FU (0 : Int32) σ := by
  have hc := hI.1
  obtain ⟨f1, f2, f3, f4, f5, f6, f7⟩ := hf
  have ha := hc.a.2
  have hb := hc.b.2
  have hcc := hc.c
  have z1 : (1 : Int32).toInt = 1 := rfl
  have z9 : (99999 : Int32).toInt = 99999 := rfl
  unfold dc_X10_funds
  rw [isI_eq h hc, bd_s, if_pos (isI_nI hc f1), if_neg (by decide), isL_eq h hc, bd_s, if_pos (isL_nI hc f2), if_neg (by decide), in_eq, bd_s, rng, if_pos (show (1 : Int32).toInt ≤ c.toInt ∧ c.toInt ≤ (99999 : Int32).toInt by rw [z1, z9]; exact f3), if_neg (by decide), of_3 h (by omega), bd_s, if_pos f4, msn_eq h hc (by omega), bd_s, if_neg (by rw [tlt, msn_int hI f2 f4]; omega), if_pos (by rw [x10]; exact inb_nI (by omega) (by decide)), if_pos (by rw [x10, nI_clamp (by omega), h _ (by omega), tle]; exact f6), if_pos ib_3, if_neg (by rw [cl_3, h 3 (by decide), hcc.1, show (60 : Int32) = nI 60 from rfl, nI_eq (by omega) (by omega)]; omega), if_pos ib_3]
theorem xl7 (n w : Nat) : ((144 : Int32) + (7 : Int32) * nI n) + nI w = nI (144 + 7 * n + w) := by rw [x144, nI_add]
theorem xl7_0 (n : Nat) : ((144 : Int32) + (7 : Int32) * nI n) + (0 : Int32) = nI (144 + 7 * n + 0) := xl7 n 0
theorem xl7_1 (n : Nat) : ((144 : Int32) + (7 : Int32) * nI n) + (1 : Int32) = nI (144 + 7 * n + 1) := xl7 n 1
theorem xl7_2 (n : Nat) : ((144 : Int32) + (7 : Int32) * nI n) + (2 : Int32) = nI (144 + 7 * n + 2) := xl7 n 2
theorem xl7_3 (n : Nat) : ((144 : Int32) + (7 : Int32) * nI n) + (3 : Int32) = nI (144 + 7 * n + 3) := xl7 n 3
theorem xl7_4 (n : Nat) : ((144 : Int32) + (7 : Int32) * nI n) + (4 : Int32) = nI (144 + 7 * n + 4) := xl7 n 4
/-- all but the numbers of the market -/
def Fs (σ τ : Sto) : Prop := SameC σ τ ∧ τ.1 416 = σ.1 416
theorem Fs.refl (σ : Sto) : Fs σ σ := ⟨SameC.refl σ, rfl⟩
theorem Fs.trans {σ τ υ : Sto} (h : Fs σ τ) (h2 : Fs τ υ) : Fs σ υ := ⟨h.1.trans h2.1, h2.2.trans h.2⟩
theorem Fs_up {σ : Sto} {j l : Nat} {v : Int32} : Fs σ (up σ 304 j l v) := ⟨SameC_up rfl, up_f (by decide)⟩
/-- what the reference writes at the end -/
theorem fu_end {σ : Sto} {Z : Zt} {m : Mt} {i l : Nat} {k c : Int32} {o : Int32} (hc : Cnt m) (hm : RMid σ Z (nt m i l k c) o) (hf : FeOk m i l c) (hN : Cnt (nt m i l k c)) (hq : 1 ≤ (m (34 + 11 * l + 2)).toInt) : ∃ τ, (bd (dc_X10_missing (nI l) σ) fun r17 σ18 => (if r17 = 0 then (bv (dc_X10_be (nI l) (3 : Int32) (1 : Int32) σ18) fun σ20 => (bd (dc_X10_of (nI l) (0 : Int32) σ20) fun r21 σ22 => (bv (dc_X10_be (nI l) (4 : Int32) r21 σ22) fun σ24 => (bd (dc_X10_of (nI l) (0 : Int32) σ24) fun r25 σ26 => (bd (dc_X10_of (nI l) (2 : Int32) σ26) fun r27 σ28 => (bd (dc_X10_upwards r25 r27 σ28) fun r29 σ30 => (bv (dc_X10_be (nI l) (5 : Int32) r29 σ30) fun σ32 => some (r17, σ32)))))))) else some (r17, σ18))) = some (msn (nt m i l k c) l, τ) ∧ RMid τ Z (adn m i l k c) o ∧ Fs σ τ := by
  have hb := hc.b.2
  have f2 := hf.2.1
  obtain ⟨n1, n2, n3, n4, n5⟩ := nt_hi (k := k) hc hf
  rw [msn_eq hm.1 hN (by omega), bd_s]
  unfold adn
  by_cases hz : msn (nt m i l k c) l = 0
  · rw [if_pos hz, if_pos hz]
    have r1 := RMid_now (k := 34 + 11 * l + 3) (v := 1) hm
    have e0 : upd (nt m i l k c) (34 + 11 * l + 3) 1 (34 + 11 * l + 0) = nt m i l k c (34 + 11 * l) := upd_ne (by omega)
    have r2 := RMid_now (k := 34 + 11 * l + 4) (v := nt m i l k c (34 + 11 * l)) r1
    have e1 : upd (upd (nt m i l k c) (34 + 11 * l + 3) 1) (34 + 11 * l + 4) (nt m i l k c (34 + 11 * l)) (34 + 11 * l + 0) = nt m i l k c (34 + 11 * l) := by rw [upd_ne (by omega), upd_ne (by omega), Nat.add_zero]
    have e2 : upd (upd (nt m i l k c) (34 + 11 * l + 3) 1) (34 + 11 * l + 4) (nt m i l k c (34 + 11 * l)) (34 + 11 * l + 2) = nt m i l k c (34 + 11 * l + 2) := by rw [upd_ne (by omega), upd_ne (by omega)]
    have r3 := RMid_now (k := 34 + 11 * l + 5) (v := (nt m i l k c (34 + 11 * l) + nt m i l k c (34 + 11 * l + 2) - 1) / nt m i l k c (34 + 11 * l + 2)) r2
    rw [be_3 (by omega), bv_s, of_0 r1.1 (by omega), bd_s, e0, be_4 (by omega), bv_s, of_0 r2.1 (by omega), bd_s, e1, of_2 r2.1 (by omega), bd_s, e2, mupw_eq (by rw [n3]; exact hq), bd_s, be_5 (by omega), bv_s]
    exact ⟨_, rfl, r3, Fs.trans (Fs_up) (Fs.trans (Fs_up) (Fs_up))⟩
  · rw [if_neg hz, if_neg hz]
    exact ⟨σ, rfl, hm, Fs.refl σ⟩
theorem fu_ok {K : Int} {σ : Sto} {Z : Zt} {m : Mt} {i l : Nat} {k c : Int32} {o : Int32} (hI : InvM K m) (h : RMid σ Z m o) (hf : FeOk m i l c) : ∃ τ, dc_X10_funds (nI i) (nI l) k c σ = some (msn (nt m i l k c) l, τ) ∧ RMid τ Z (adn m i l k c) o ∧ Fs σ τ := by
  have hc := hI.1
  obtain ⟨f1, f2, f3, f4, f5, f6, f7⟩ := id hf
  have ha := hc.a.2
  have hb := hc.b.2
  have u3 : σ.1 304 0 3 = nI (nc m) := (h.1 3 (by decide)).trans hc.c.1
  have cN := cnt_nt (l := l) (k := k) (c := c) hc f7 (show i < 8 by omega)
  rw [fu_pre hI h.1 hf, cl_3, u3]
  refine wh1_inv (T := fun x => ∃ τ, x = some (msn (nt m i l k c) l, τ) ∧ RMid τ Z (adn m i l k c) o ∧ Fs σ τ) (fun j τ => RMid τ Z (fun x => if 144 + 7 * nc m ≤ x ∧ x < 144 + 7 * nc m + j then 0 else m x) o ∧ Fs σ τ) 7 (by decide) (fun j τ hj hP => ?_) (fun τ hP rec => ?_) ⟨h.congr fun x hx => (if_neg (by omega)).symm, Fs.refl σ⟩
  · obtain ⟨hP1, hP2⟩ := hP
    refine ⟨up τ 304 0 (144 + 7 * nc m + j) 0, ⟨(RMid_now (k := 144 + 7 * nc m + j) (v := 0) hP1).congr fun x hx => ?_, hP2.trans Fs_up⟩, fun rec => ?_⟩
    · by_cases e : x = 144 + 7 * nc m + j
      · rw [e, upd_eq, if_pos (by omega)]
      · rw [upd_ne e]
        by_cases e2 : 144 + 7 * nc m ≤ x ∧ x < 144 + 7 * nc m + j
        · rw [if_pos e2, if_pos (by omega)]
        · rw [if_neg e2, if_neg (by omega)]
    · rw [if_neg (by rw [show (7 : Int32) = nI 7 from rfl, nI_leI (by omega) (by omega)]; omega), xl7, if_pos (inb_nI (show 144 + 7 * nc m + j < 564 by omega) (by decide)), nI_1, nI_clamp (by omega)]
  · obtain ⟨hP1, hP2⟩ := hP
    have r5 := RMid_now (k := 144 + 7 * nc m + 4) (v := c) (RMid_now (k := 144 + 7 * nc m + 3) (v := c) (RMid_now (k := 144 + 7 * nc m + 2) (v := k) (RMid_now (k := 144 + 7 * nc m + 1) (v := nI l) (RMid_now (k := 144 + 7 * nc m + 0) (v := nI i) hP1))))
    have r7 := RMid_now (k := 10 + 3 * i) (v := m (10 + 3 * i) - c) (RMid_now (k := 3) (v := nI (nc m) + 1) r5)
    have r8 : RMid _ Z (nt m i l k c) o := r7.congr fun x hx => by
      unfold nt
      rw [hc.c.1]
      simp only [upd, Nat.add_zero]
      by_cases x1 : x = 10 + 3 * i
      · rw [if_pos x1, if_pos x1]
      · rw [if_neg x1, if_neg x1]
        by_cases x2 : x = 3
        · rw [if_pos x2, if_pos x2]
        · rw [if_neg x2, if_neg x2]
          by_cases kin : 144 + 7 * nc m ≤ x ∧ x < 144 + 7 * nc m + 7
          · obtain ⟨w, hw, rfl⟩ : ∃ w, w < 7 ∧ x = 144 + 7 * nc m + w := ⟨x - (144 + 7 * nc m), by omega, by omega⟩
            rcases (show w = 0 ∨ w = 1 ∨ w = 2 ∨ w = 3 ∨ w = 4 ∨ w = 5 ∨ w = 6 by omega) with rfl | rfl | rfl | rfl | rfl | rfl | rfl <;> simp (disch := omega) only [if_pos, if_neg, if_true, Nat.add_zero]
          · simp (disch := omega) only [if_neg]
    have w3 : τ.1 304 0 3 = nI (nc m) := (hP1.1 3 (by decide)).trans ((if_neg (by omega)).trans hc.c.1)
    have wi : τ.1 304 0 (10 + 3 * i) = m (10 + 3 * i) := (hP1.1 (10 + 3 * i) (by omega)).trans (if_neg (by omega))
    obtain ⟨υ, v1, v2, v3⟩ := fu_end hc r8 hf cN (hI.2.2.2.2.2.1 l f2).2.2.1.1
    rw [if_pos (by decide)]
    simp only [lt]
    rw [xl7_0, xl7_1, xl7_2, xl7_3, xl7_4, x10, if_pos (inb_nI (show 144 + 7 * nc m + 0 < 564 by omega) (by decide)), if_pos (inb_nI (show 144 + 7 * nc m + 1 < 564 by omega) (by decide)), if_pos (inb_nI (show 144 + 7 * nc m + 2 < 564 by omega) (by decide)), if_pos (inb_nI (show 144 + 7 * nc m + 3 < 564 by omega) (by decide)), if_pos (inb_nI (show 144 + 7 * nc m + 4 < 564 by omega) (by decide)), if_pos ib_3, if_pos ib_3, if_pos (inb_nI (show 10 + 3 * i < 564 by omega) (by decide)), if_pos (inb_nI (show 10 + 3 * i < 564 by omega) (by decide))]
    simp only [nI_clamp (show 144 + 7 * nc m + 0 < 2 ^ 31 by omega), nI_clamp (show 144 + 7 * nc m + 1 < 2 ^ 31 by omega), nI_clamp (show 144 + 7 * nc m + 2 < 2 ^ 31 by omega), nI_clamp (show 144 + 7 * nc m + 3 < 2 ^ 31 by omega), nI_clamp (show 144 + 7 * nc m + 4 < 2 ^ 31 by omega), nI_clamp (show 10 + 3 * i < 2 ^ 31 by omega)]
    simp (disch := omega) only [up_nl]
    rw [w3, wi]
    rw [v1]
    refine ⟨υ, rfl, v2, hP2.trans (Fs.trans ?_ v3)⟩
    exact Fs.trans (Fs_up) (Fs.trans (Fs_up) (Fs.trans (Fs_up) (Fs.trans (Fs_up) (Fs.trans (Fs_up) (Fs.trans (Fs_up) (Fs_up))))))
/-! fund, on both sides -/
theorem fe_neg {K : Int} {m : Mt} {a1 a2 c : Int32} (h : InvM K m) (h0 : ¬ fe m a1 a2 c = 0) : ¬ (0 : Int32) ≤ fe m a1 a2 c := by
  revert h0
  unfold fe
  intro h0
  split
  · decide
  split
  · decide
  split
  · decide
  split
  · decide
  split
  · decide
  split
  · decide
  split
  · decide
  split
  · decide
  · rename_i y1 y2 y3 y4 y5 y6 y7 y8
    rw [if_neg y1, if_neg y2, if_neg y3, if_neg y4, if_neg y5, if_neg y6, if_neg y7, if_neg y8] at h0
    exact absurd rfl h0
theorem msn_nt {K : Int} {m : Mt} {i l : Nat} {k c : Int32} (h : InvM K m) (hf : FeOk m i l c) (h01 : k = 0 ∨ k = 1) : (0 : Int32) ≤ msn (nt m i l k c) l := by
  rw [← msn_adn]
  have hA := InvM_adn h hf h01
  have hc := h.1
  have hnb : nb (adn m i l k c) = nb m := by
    unfold adn
    by_cases hz : msn (nt m i l k c) l = 0
    · rw [if_pos hz]
      have hb := hc.b.2
      have := hf.2.1
      unfold nb stt
      rw [upd_ne (by omega), upd_ne (by omega), upd_ne (by omega)]
      exact (nt_hi hc hf).2.2.2.1
    · rw [if_neg hz]; exact (nt_hi hc hf).2.2.2.1
  have hl : l < nb (adn m i l k c) := by rw [hnb]; exact hf.2.1
  by_cases hs : adn m i l k c (34 + 11 * l + 3) = 0
  · have := (hA.2.2.2.2.2.2.2.1 l hl).2 hs
    rw [tle, msn_int hA hl hs, show (0 : Int32).toInt = 0 from rfl]
    omega
  · unfold msn
    rw [if_neg hs]
    decide
theorem q_fund {K : Int} {Z : Zt} (hI : InvZ K Z) (a1 a2 a3 c : Int32) : Pair K Z (dc_X9_fund a1 a2 a3 c) (dc_X10_fund a1 a2 a3 c) := by
  have hc := hI.1.1
  obtain ⟨k, hk, h01⟩ : ∃ k : Int32, k = (if a3 = 0 then 0 else 1) ∧ (k = 0 ∨ k = 1) := ⟨_, rfl, by by_cases e : a3 = 0 <;> simp [e]⟩
  have pc : ∀ σ, dc_X9_fund a1 a2 a3 c σ = (bd (dc_X5_fundingError 0 a1 a2 c σ) fun r1 σ2 => (if r1 = 0 then (bv (dc_X2_record 0 σ2) fun σ4 => (bv (dc_X5_addNote 0 a1 a2 k c σ4) fun σ8 => (bd (dc_X5_missing 0 a2 σ8) fun r9 σ10 => some (r9, σ10)))) else some (r1, σ2))) := fun σ => by
    unfold dc_X9_fund
    simp only [jn]
    by_cases e : a3 = 0
    · rw [if_pos e] at hk; subst hk; simp only [e, if_true]
    · rw [if_neg e] at hk; subst hk; simp only [e, if_false]
  have pm : ∀ σ, dc_X10_fund a1 a2 a3 c σ = (bv (dc_X10_aside  σ) fun σ2 => (bd (dc_X10_funds a1 a2 k c σ2) fun r5 σ6 => (if 0 ≤ r5 then (bd (dc_X10_acted r5 σ6) fun r7 σ8 => some (r7, σ8)) else some (r5, σ6)))) := fun σ => by
    unfold dc_X10_fund
    simp only [jn]
    by_cases e : a3 = 0
    · rw [if_pos e] at hk; subst hk; simp only [e, if_true]
    · rw [if_neg e] at hk; subst hk; simp only [e, if_false]
  by_cases h0 : fe Z.1 a1 a2 c = 0
  · obtain ⟨i, l, rfl, rfl, hf⟩ := fe_ok hI.1 h0
    have hb := hc.b.2
    obtain ⟨f1, f2, f3, f4, f5, f6, f7⟩ := id hf
    have hA := InvM_adn hI.1 hf h01
    refine Pair.act hI (msn (nt Z.1 i l k c) l) (adn Z.1 i l k c) hA (fun σ hr => ?_) (fun σ hr => ?_)
    · obtain ⟨σ1, p1, p2, p3⟩ := record_eq hr
      obtain ⟨τ, t1, t2, t3⟩ := adn_c (k := k) hI.1 p2.1 hf h01 h0
      refine ⟨σ1, τ, p3, p2, ?_, t2, t3⟩
      have hnb : l < nb (adn Z.1 i l k c) := by
        have e : nb (adn Z.1 i l k c) = nb Z.1 := by
          unfold adn
          by_cases hz : msn (nt Z.1 i l k c) l = 0
          · rw [if_pos hz]
            unfold nb stt
            rw [upd_ne (by omega), upd_ne (by omega), upd_ne (by omega)]
            exact (nt_hi hc hf).2.2.2.1
          · rw [if_neg hz]; exact (nt_hi hc hf).2.2.2.1
        rw [e]; exact f2
      rw [pc, fe_c hI.1 hr.1, bd_s, h0, if_pos rfl, p1, bv_s]
      have t1' : dc_X5_addNote 0 (nI i) (nI l) k c σ1 = some τ := t1
      rw [t1', bv_s, xmsn_eq t3 hA.1 hA.kin hnb, bd_s, msn_adn]
    · obtain ⟨σ1, p1, p2, p3⟩ := aside_eq hr
      obtain ⟨τ, t1, t2, t3⟩ := fu_ok (k := k) hI.1 p2 hf
      obtain ⟨υ, v1, v2, v3⟩ := acted_eq (msn (nt Z.1 i l k c) l) t2
      rw [pm, p1, bv_s, t1, bd_s, if_pos (msn_nt hI.1 hf h01), v1, bd_s]
      exact ⟨υ, rfl, v2, p3.trans (t3.1.trans v3)⟩
  · refine Pair.no hI (fe Z.1 a1 a2 c) (fun σ hr => ?_) (fun σ hr => ?_)
    · rw [pc, fe_c hI.1 hr.1, bd_s, if_neg h0]
    · obtain ⟨σ1, p1, p2, p3⟩ := aside_eq hr
      rw [pm, p1, bv_s, fu_no hI.1 p2.1 a1 a2 k c h0, bd_s, if_neg (fe_neg hI.1 h0)]
      exact ⟨σ1, rfl, p2.out, p3⟩
