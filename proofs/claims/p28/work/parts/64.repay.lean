/-! the fewest coins that repay -/
theorem wh1_to {R : Type} {b : (Int32 → Sto → Option R) → Int32 → Sto → Option R} {σ : Sto} {r : Option R} (s N : Nat) (hsN : s ≤ N) (hN : N - s < 100000)
    (hs : ∀ (i : Nat) (rec : Int32 → Sto → Option R), s ≤ i → i < N → b rec (nI i) σ = rec (nI (i + 1)) σ) (he : ∀ rec : Int32 → Sto → Option R, b rec (nI N) σ = r) : wh1 b FU (nI s) σ = r := by
  have key : ∀ (k i : Nat) (f : Nat), s ≤ i → i + k = N → k < f → wh1 b f (nI i) σ = r := by
    intro k
    induction k with
    | zero =>
      intro i f _ hi hf
      obtain ⟨f, rfl⟩ : ∃ z, f = z + 1 := ⟨f - 1, by omega⟩
      have : i = N := by omega
      subst this
      exact he _
    | succ k ih =>
      intro i f h1 hi hf
      obtain ⟨f, rfl⟩ : ∃ z, f = z + 1 := ⟨f - 1, by omega⟩
      show b (wh1 b f) (nI i) σ = r
      rw [hs i _ h1 (by omega)]
      exact ih (i + 1) f (by omega) (by omega) (by omega)
  exact key (N - s) s FU (Nat.le_refl _) (by omega) hN
theorem feef {s : Nat} (hs : s < 4) : (feeI s).toInt = 5 ∨ (feeI s).toInt = 10 ∨ (feeI s).toInt = 20 ∨ (feeI s).toInt = 40 := by
  rcases (show s = 0 ∨ s = 1 ∨ s = 2 ∨ s = 3 by omega) with rfl | rfl | rfl | rfl
  · exact Or.inl rfl
  · exact Or.inr (Or.inl rfl)
  · exact Or.inr (Or.inr (Or.inl rfl))
  · exact Or.inr (Or.inr (Or.inr rfl))
/-- the number -/
def rpI (W f : Int) : Int := if W = 0 then 0 else (W - 1) * 1000 / (1000 - f) + 1
theorem rp_c {P D f : Int32} (hP : 0 ≤ P.toInt ∧ P.toInt ≤ 99999) (hD : 0 ≤ D.toInt ∧ D.toInt ≤ 1200000) (hf : f.toInt = 5 ∨ f.toInt = 10 ∨ f.toInt = 20 ∨ f.toInt = 40) : ((((((P.toInt64 + D.toInt64) - (1 : Int64)) * (1000 : Int64)) / (((1000 : Int32) - f).toInt64)).toInt32) + (1 : Int32)).toInt = rpI (P.toInt + D.toInt) f.toInt := by
  have e1 := l64 P D
  have e2 : ((P.toInt64 + D.toInt64) - (1 : Int64)).toInt = P.toInt + D.toInt - 1 := by
    rw [Int64.toInt_sub, e1, show (1 : Int64).toInt = 1 from rfl]
    exact b64 (by omega) (by omega)
  have e3 : (((P.toInt64 + D.toInt64) - (1 : Int64)) * (1000 : Int64)).toInt = (P.toInt + D.toInt - 1) * 1000 := by
    rw [Int64.toInt_mul, e2, show (1000 : Int64).toInt = 1000 from rfl]
    exact b64 (by omega) (by omega)
  have e4 : ((1000 : Int32) - f).toInt64.toInt = 1000 - f.toInt := by
    rw [Int32.toInt_toInt64, tsub] <;> rw [show (1000 : Int32).toInt = 1000 from rfl] <;> omega
  have e5 : ((((P.toInt64 + D.toInt64) - (1 : Int64)) * (1000 : Int64)) / (((1000 : Int32) - f).toInt64)).toInt = rpI (P.toInt + D.toInt) f.toInt - 1 := by
    rw [Int64.toInt_div, e3, e4]
    unfold rpI
    by_cases w : P.toInt + D.toInt = 0
    · rw [if_pos w, w]
      rcases hf with h | h | h | h <;> rw [h] <;> decide
    · rw [if_neg w, Int.tdiv_eq_ediv_of_nonneg (by omega)]
      rcases hf with h | h | h | h <;> rw [h] <;> exact (b64 (by omega) (by omega)).trans (by omega)
  have e6 : ((((P.toInt64 + D.toInt64) - (1 : Int64)) * (1000 : Int64)) / (((1000 : Int32) - f).toInt64)).toInt32.toInt = rpI (P.toInt + D.toInt) f.toInt - 1 := by
    rw [Int64.toInt_toInt32, e5]
    unfold rpI
    by_cases w : P.toInt + D.toInt = 0
    · rw [if_pos w]; exact bmod_in (by omega) (by omega)
    · rw [if_neg w]
      rcases hf with h | h | h | h <;> rw [h] <;> exact bmod_in (by omega) (by omega)
  have hb : 0 ≤ rpI (P.toInt + D.toInt) f.toInt ∧ rpI (P.toInt + D.toInt) f.toInt ≤ 1400000 := by
    unfold rpI
    by_cases w : P.toInt + D.toInt = 0
    · rw [if_pos w]; omega
    · rw [if_neg w]
      rcases hf with h | h | h | h <;> rw [h] <;> omega
  rw [tadd] <;> rw [e6, show (1 : Int32).toInt = 1 from rfl] <;> omega
theorem q_toRepay {K : Int} {Z : Zt} (hI : InvZ K Z) (a : Int32) : Pair K Z (dc_X9_toRepay a) (dc_X10_toRepay a) := by
  have hc := hI.1.1
  by_cases h : isL Z.1 a
  · obtain ⟨l, hl, rfl⟩ := isL_of hc h
    have hb := hc.b.2
    by_cases r : Z.1 (34 + 11 * l + 3) = 1
    · obtain ⟨s1, s2⟩ := svc_eq hI.1 hl
      have hf := feef s2
      have k := hI.1.2.2.2.2.2.1 l hl
      have kP := k.2.2.2.2.1
      have kD : 0 ≤ (Z.1 (34 + 11 * l + 6)).toInt ∧ (Z.1 (34 + 11 * l + 6)).toInt ≤ 1200000 := by
        have := k.2.2.2.2.2.2.1
        have := hI.1.2.1
        omega
      have e := rp_c kP kD hf
      refine Pair.q hI (((((((Z.1 (34 + 11 * l + 4)).toInt64 + (Z.1 (34 + 11 * l + 6)).toInt64) - (1 : Int64)) * (1000 : Int64)) / (((1000 : Int32) - feeI (svc Z.1 l)).toInt64)).toInt32) + (1 : Int32)) (fun σ hr => ?_) (fun σ hr => ?_)
      · have q := hr.1.2.2.1 l (by omega)
        have e4 : ((1000 : Int32) - feeI (svc Z.1 l)).toInt = 1000 - (feeI (svc Z.1 l)).toInt := by
          rw [tsub] <;> rw [show (1000 : Int32).toInt = 1000 from rfl] <;> omega
        unfold dc_X9_toRepay
        rw [hasL_eq hr.1, bd_s, if_pos h, if_neg (by decide), xruns_eq hr.1 hc hl, bd_s, if_pos r, if_neg (by decide), if_pos (inb_nI (show l < 10 by omega) (by decide)), nI_clamp (by omega), q.2.2.2.2.2.2.2.2.2.1, s1, fee_eq s2, bd_s, if_pos (by rw [tlt, e4, show (0 : Int32).toInt = 0 from rfl]; omega), if_pos (fun z => ?_), q.2.2.2.2.2.2.1, q.2.2.2.2.1]
        have := congrArg Int64.toInt z
        rw [Int32.toInt_toInt64, e4, show (0 : Int64).toInt = 0 from rfl] at this
        omega
      · have hm := hr.t
        obtain ⟨X, hX⟩ : ∃ X : Int32, X = (((((((Z.1 (34 + 11 * l + 4)).toInt64 + (Z.1 (34 + 11 * l + 6)).toInt64) - (1 : Int64)) * (1000 : Int64)) / (((1000 : Int32) - feeI (svc Z.1 l)).toInt64)).toInt32) + (1 : Int32)) := ⟨_, rfl⟩
        rw [← hX] at e ⊢
        have eW : (Z.1 (34 + 11 * l + 6) + Z.1 (34 + 11 * l + 4)).toInt = (Z.1 (34 + 11 * l + 4)).toInt + (Z.1 (34 + 11 * l + 6)).toInt := by
          rw [tadd] <;> omega
        obtain ⟨W, hW⟩ : ∃ W : Nat, (W : Int) = (Z.1 (34 + 11 * l + 4)).toInt + (Z.1 (34 + 11 * l + 6)).toInt := ⟨((Z.1 (34 + 11 * l + 4)).toInt + (Z.1 (34 + 11 * l + 6)).toInt).toNat, by omega⟩
        have eWn : Z.1 (34 + 11 * l + 6) + Z.1 (34 + 11 * l + 4) = nI W := by
          rw [teq, eW, nI_toInt (by omega), hW]
        have hXb : (W : Int) ≤ X.toInt ∧ X.toInt - W < 60000 := by
          rw [e, ← hW]
          unfold rpI
          by_cases w : (W : Int) = 0
          · rw [if_pos w]; omega
          · rw [if_neg w]
            rcases hf with h | h | h | h <;> rw [h] <;> omega
        have hXn : X = nI X.toInt.toNat := by
          rw [teq, nI_toInt (by omega)]
          omega
        have ff : ∀ i : Nat, i < 1400000 → dc_X10_feeFor (nI l) (nI i) (up σ 160 0 0 0) = some (pFee Z.1 l (nI i), up σ 160 0 0 0) ∧ (nI i - pFee Z.1 l (nI i)).toInt = i - i * (feeI (svc Z.1 l)).toInt / 1000 := fun i hi => by
          have ei := nI_toInt (n := i) (by omega)
          have ep : (nI i * feeI (svc Z.1 l)).toInt = i * (feeI (svc Z.1 l)).toInt := by
            rw [tmul] <;> rw [ei] <;> rcases hf with h | h | h | h <;> rw [h] <;> omega
          have ed : (pFee Z.1 l (nI i)).toInt = i * (feeI (svc Z.1 l)).toInt / 1000 := by
            unfold pFee
            rw [tdiv (by rw [ep]; rcases hf with h | h | h | h <;> rw [h] <;> omega) (by decide), ep]
            rfl
          refine ⟨feeFor_eq hI.1 hm hl (by rw [ei]; omega) (by rw [ei]; rcases hf with h | h | h | h <;> rw [h] <;> omega), ?_⟩
          rw [tsub] <;> rw [ei, ed] <;> rcases hf with h | h | h | h <;> rw [h] <;> omega
        unfold dc_X10_toRepay
        rw [isL_eq hm hc, bd_s, if_pos h, if_neg (by decide), runs_eq hm (by omega), bd_s, if_pos r, if_neg (by decide), of_6 hm (by omega), bd_s, of_4 hm (by omega), bd_s, eWn]
        refine wh1_to W X.toInt.toNat (by omega) (by omega) (fun i rec h1 h2 => ?_) (fun rec => ?_)
        · obtain ⟨g1, g2⟩ := ff i (by omega)
          rw [g1, bd_s, if_neg, nI_1]
          rw [tle, g2, nI_toInt (by omega)]
          have h3 : (i : Int) < X.toInt := by omega
          rw [e, ← hW] at h3
          unfold rpI at h3
          by_cases w : (W : Int) = 0
          · rw [if_pos w] at h3; omega
          · rw [if_neg w] at h3
            rcases hf with h | h | h | h <;> rw [h] at h3 ⊢ <;> omega
        · obtain ⟨g1, g2⟩ := ff X.toInt.toNat (by omega)
          rw [g1, bd_s, if_pos, ← hXn]
          rw [tle, g2, nI_toInt (by omega)]
          have h3 : (X.toInt.toNat : Int) = X.toInt := by omega
          rw [h3]
          rw [e, ← hW]
          unfold rpI
          by_cases w : (W : Int) = 0
          · rw [if_pos w]; omega
          · rw [if_neg w]
            rcases hf with h | h | h | h <;> rw [h] <;> omega
    · refine Pair.q hI (-4) (fun σ hr => ?_) (fun σ hr => ?_)
      · unfold dc_X9_toRepay
        rw [hasL_eq hr.1, bd_s, if_pos h, if_neg (by decide), xruns_eq hr.1 hc hl, bd_s, if_neg r, if_pos rfl]
      · have hm := hr.t
        unfold dc_X10_toRepay
        rw [isL_eq hm hc, bd_s, if_pos h, if_neg (by decide), runs_eq hm (by omega), bd_s, if_neg r, if_pos rfl]
  · refine Pair.q hI (-1) (fun σ hr => ?_) (fun σ hr => ?_)
    · unfold dc_X9_toRepay
      rw [hasL_eq hr.1, bd_s, if_neg h, if_pos rfl]
    · have hm := hr.t
      unfold dc_X10_toRepay
      rw [isL_eq hm hc, bd_s, if_neg h, if_pos rfl]
