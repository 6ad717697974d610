/-! weights and shares of the class -/
theorem wh2_invx {A R : Type} {b : (A → Int32 → Sto → Option R) → A → Int32 → Sto → Option R} {T : Option R → Prop} (P : Nat → A → Sto → Prop) (N : Nat) (hN : N < 100000)
    (hs : ∀ (i : Nat) (x : A) (σ : Sto), i < N → P i x σ → (∃ y τ, P (i + 1) y τ ∧ ∀ rec : A → Int32 → Sto → Option R, b rec x (nI i) σ = rec y (nI (i + 1)) τ) ∨ ∀ rec : A → Int32 → Sto → Option R, T (b rec x (nI i) σ)) (he : ∀ (x : A) (σ : Sto), P N x σ → ∀ rec : A → Int32 → Sto → Option R, T (b rec x (nI N) σ)) {x : A} {σ : Sto} (h0 : P 0 x σ) : T (wh2 b FU x (0 : Int32) σ) := by
  have key : ∀ (k i : Nat) (x : A) (σ : Sto) (f : Nat), i + k = N → k < f → P i x σ → T (wh2 b f x (nI i) σ) := by
    intro k
    induction k with
    | zero =>
      intro i x σ f hi hf hP
      obtain ⟨f, rfl⟩ : ∃ z, f = z + 1 := ⟨f - 1, by omega⟩
      have : i = N := by omega
      subst this
      exact he x σ hP _
    | succ k ih =>
      intro i x σ f hi hf hP
      obtain ⟨f, rfl⟩ : ∃ z, f = z + 1 := ⟨f - 1, by omega⟩
      show T (b (wh2 b f) x (nI i) σ)
      rcases hs i x σ (by omega) hP with ⟨y, τ, h1, h2⟩ | h
      · rw [h2]
        exact ih (i + 1) y τ f (by omega) (by omega) h1
      · exact h _
  exact key N 0 x σ FU (by omega) hN h0
def PA (σ : Sto) (gi gp w : Gf) : Prop := ∀ n, n < 60 → σ.1 288 0 n = gi n ∧ σ.1 288 1 n = gp n ∧ σ.1 288 2 n = w n
theorem n60 {i : Nat} (h : i < 60) : ¬ (60 : Int32) ≤ nI i := by rw [show (60 : Int32) = nI 60 from rfl, nI_leI (by omega) (by omega)]; omega
theorem y60 : (60 : Int32) ≤ nI 60 := by decide
theorem clear_c {σ : Sto} : ∃ τ, dc_X8_clear σ = some τ ∧ FrW 288 σ τ ∧ PA τ (fun _ => 0) (fun _ => 0) (fun _ => 0) := by
  unfold dc_X8_clear
  refine wh1_inv (T := fun o => ∃ τ, o = some τ ∧ FrW 288 σ τ ∧ PA τ (fun _ => 0) (fun _ => 0) (fun _ => 0)) (fun i τ => FrW 288 σ τ ∧ ∀ n, n < i → τ.1 288 0 n = 0 ∧ τ.1 288 1 n = 0 ∧ τ.1 288 2 n = 0) 60 (by decide) (fun i τ hi hP => ?_) (fun τ hP rec => ?_) ⟨FrW.refl 288 σ, fun n hn => absurd hn (Nat.not_lt_zero n)⟩
  · refine ⟨up (up (up τ 288 0 i 0) 288 1 i 0) 288 2 i 0, ⟨FrW_up (FrW_up (FrW_up hP.1)), fun n hn => ?_⟩, fun rec => ?_⟩
    · by_cases e : n = i
      · rw [e, up_nj (by decide), up_nj (by decide), up_eq, up_nj (by decide), up_eq, up_eq]
        exact ⟨rfl, rfl, rfl⟩
      · rw [up_nl e, up_nl e, up_nl e, up_nl e, up_nl e, up_nl e, up_nl e, up_nl e, up_nl e]
        exact hP.2 n (by omega)
    · simp only [lt]
      rw [if_neg (n60 hi), if_pos (inb_nI hi (by decide)), if_pos (inb_nI hi (by decide)), if_pos (inb_nI hi (by decide)), nI_clamp (by omega), nI_1]
  · rw [if_pos y60]
    exact ⟨τ, rfl, hP.1, fun n hn => hP.2 n hn⟩
theorem FrW.cla {σ τ : Sto} {j : Nat} {m : Mt} (h : FrW 288 σ τ) (hc : Cla σ j m) : Cla τ j m := hc.congrM fun f hf => by rw [h.1 f (by rintro rfl; cases hf)]
/-- which class is weighed -/
def kAx (s : Int32) : Int32 := if s = 1 then 0 else 1
def kBx (s : Int32) : Int32 := if s = 0 then 0 else 1
theorem weigh_c {σ : Sto} {m : Mt} {gi gp w : Gf} (hr : Cla σ 0 m) (hc : Cnt m) (hk : Kin m) (l s : Int32) (hs : s = 0 ∨ s = 1 ∨ s = 2) (hA : PA σ gi gp w) (hz : ∀ n, nc m ≤ n → w n = 0) : ∃ τ, dc_X8_weighPrincipals 0 l (kAx s) (kBx s) σ = some τ ∧ FrW 288 σ τ ∧ PA τ gi gp (wt m l s) := by
  obtain ⟨h3, hn⟩ := hc.c
  unfold dc_X8_weighPrincipals
  refine wh1_inv (T := fun o => ∃ τ, o = some τ ∧ FrW 288 σ τ ∧ PA τ gi gp (wt m l s)) (fun i τ => FrW 288 σ τ ∧ PA τ gi gp (fun n => if n < i then wt m l s n else w n)) (nc m) (by omega) (fun i τ hi hP => ?_) (fun τ hP rec => ?_) ⟨FrW.refl 288 σ, fun n hn => hA n hn⟩
  · obtain ⟨p1, p2⟩ := hP
    have hr' := p1.cla hr
    have q := hr'.2.2.2 i (by omega)
    refine ⟨up τ 288 2 i (wt m l s i), ⟨FrW_up p1, fun n hn' => ?_⟩, fun rec => ?_⟩
    · obtain ⟨a1, a2, a3⟩ := p2 n hn'
      rw [up_nj (by decide), up_nj (by decide)]
      refine ⟨a1, a2, ?_⟩
      by_cases e : n = i
      · rw [e, up_eq]
        exact (if_pos (by omega)).symm
      · rw [up_nl e, a3]
        show (if n < i then wt m l s n else w n) = if n < i + 1 then wt m l s n else w n
        by_cases e2 : n < i
        · rw [if_pos e2, if_pos (by omega)]
        · rw [if_neg e2, if_neg (by omega)]
    · rw [hr'.1.2.2.2.1, h3, if_neg (by rw [nI_leI (by omega) (by omega)]; omega)]
      simp only [jn, if_pos (inb_nI (show i < 60 by omega) (by decide)), nI_clamp (show i < 2 ^ 31 by omega), q.2.1, q.2.2.1, q.2.2.2.1, nI_1]
      have z10 : ¬ (1 : Int32) = 0 := by decide
      have z01 : ¬ (0 : Int32) = 1 := by decide
      have z02 : ¬ (0 : Int32) = 2 := by decide
      have z12 : ¬ (1 : Int32) = 2 := by decide
      have z20 : ¬ (2 : Int32) = 0 := by decide
      have z21 : ¬ (2 : Int32) = 1 := by decide
      unfold wt kAx kBx
      by_cases c1 : m (144 + 7 * i + 1) = l
      · rcases hk i hi with k0 | k0 <;> rcases hs with rfl | rfl | rfl <;> simp only [c1, k0, hi, z10, z01, z02, z12, z20, z21, if_true, if_false, true_and, false_or, or_true, true_or]
      · simp only [c1, false_and, and_false, if_true, if_false]
  · obtain ⟨p1, p2⟩ := hP
    have hr' := p1.cla hr
    rw [hr'.1.2.2.2.1, h3, if_pos (by rw [nI_leI (by omega) (by omega)]; omega)]
    refine ⟨τ, rfl, p1, fun n hn' => ?_⟩
    obtain ⟨a1, a2, a3⟩ := p2 n hn'
    refine ⟨a1, a2, ?_⟩
    rw [a3]
    by_cases e2 : n < nc m
    · exact if_pos e2
    · rw [wt_out (by omega)]
      exact (if_neg e2).trans (hz n (by omega))
theorem ex_zero {w : Nat → Int} {x : Int} {i : Nat} (h : lv w x i ≤ 0) : ∀ n, i ≤ n → ex w x n = 0 ∧ lv w x n ≤ 0 := by
  intro n hn
  obtain ⟨k, rfl⟩ : ∃ k, n = i + k := ⟨n - i, by omega⟩
  clear hn
  induction k with
  | zero => exact ⟨if_neg fun z => by have := z.1; rw [Nat.add_zero] at this; omega, h⟩
  | succ k ih =>
    have : lv w x (i + (k + 1)) = lv w x (i + k) := if_neg fun z => by have h0 : 0 < lv w x (i + k) := z.1; omega
    refine ⟨if_neg fun z => by have h0 : 0 < lv w x (i + (k + 1)) := z.1; omega, by omega⟩
theorem lgp (x : Int64) : ((0 : Int32) < lg_cmp x 0) ↔ 0 < x.toInt := by
  have h := lg_cmp_le (x := x) (y := 0)
  have : (0 : Int32) < lg_cmp x 0 ↔ ¬ lg_cmp x 0 ≤ 0 := by rw [tlt, tle]; omega
  rw [this, h, Int64.le_iff_toInt_le, show (0 : Int64).toInt = 0 from rfl]
  omega
theorem shareOut_c {σ : Sto} {G : Nat → Gf} {w : Gf} {j : Nat} (hj : j < 2) (h0 : ∀ n, n < 60 → ∀ j', j' < 2 → σ.1 288 j' n = G j' n) (h2 : ∀ n, n < 60 → σ.1 288 2 n = w n) (hw : Wok w) {c : Int32} (hcb : 0 ≤ c.toInt ∧ c.toInt ≤ 1000000000) :
    ∃ τ, dc_X8_shareOut c j σ = some τ ∧ FrW 288 σ τ ∧ (∀ n, n < 60 → ∀ j', j' < 2 → τ.1 288 j' n = if j' = j then G j n + sh c w n else G j' n) ∧ ∀ n, n < 60 → τ.1 288 2 n = w n := by
  have hs := hw.s
  have z0 : (0 : Int32).toInt = 0 := rfl
  unfold dc_X8_shareOut
  refine wh2_inv (T := fun o => ∃ τ, o = some τ ∧ FrW 288 σ τ ∧ (∀ n, n < 60 → ∀ j', j' < 2 → τ.1 288 j' n = if j' = j then G j n + sh c w n else G j' n) ∧ ∀ n, n < 60 → τ.1 288 2 n = w n) (fun i (x : Int64) τ => x.toInt = si (tI w) i ∧ τ = σ) 60 (by decide) (fun i x τ hi hP => ?_) (fun x τ hP rec => ?_) ⟨rfl, rfl⟩
  · obtain ⟨p1, rfl⟩ := hP
    have b1 := si_nn (f := tI w) (n := i) fun k _ => (hw k).1
    have b2 := si_mono (f := tI w) (i := i) (j := 60) (by omega) fun k _ => (hw k).1
    have b3 := hw i
    refine ⟨x + (w i).toInt64, τ, ⟨?_, rfl⟩, fun rec => ?_⟩
    · show _ = si (tI w) i + (w i).toInt
      rw [Int64.toInt_add, p1, Int32.toInt_toInt64]
      exact b64 (by omega) (by omega)
    · rw [if_neg (n60 hi), if_pos (inb_nI hi (by decide)), nI_clamp (by omega), h2 i hi, nI_1]
  · obtain ⟨p1, rfl⟩ := hP
    rw [if_pos y60]
    by_cases hW : 0 < x.toInt
    · rw [if_pos ((lgp x).mpr hW)]
      have hWi : ∀ n, n < 60 → (w n).toInt ≤ x.toInt := fun n hn => by
        rw [p1]; exact si_ge (f := tI w) (fun k _ => (hw k).1) hn
      have hpq : ∀ n, n < 60 → 0 ≤ pq c.toInt (tI w) x.toInt n ∧ pq c.toInt (tI w) x.toInt n ≤ c.toInt ∧ (tI w n = 0 → pq c.toInt (tI w) x.toInt n = 0) := fun n hn => pq_b hW hcb.1 (hw n).1 (hWi n hn)
      have hL := left_b (c := c.toInt) (W := x.toInt) (w := tI w) (N := 60) hW hcb.1 (fun n => (hw n).1) p1.symm
      have hcz := cnz_b (tI w) 60
      have hsl : ∀ i, i ≤ 60 → 0 ≤ si (pq c.toInt (tI w) x.toInt) i ∧ si (pq c.toInt (tI w) x.toInt) i ≤ c.toInt := fun i hi => by
        have a := si_nn (f := pq c.toInt (tI w) x.toInt) (n := i) fun k hk => (hpq k (by omega)).1
        have b := si_mono (f := pq c.toInt (tI w) x.toInt) (i := i) (j := 60) hi fun k hk => (hpq k (by omega)).1
        omega
      have hx64 : ¬ x = 0 := fun z => by rw [z, show (0 : Int64).toInt = 0 from rfl] at hW; omega
      have hdv : ∀ n, n < 60 → ((c.toInt64 * (w n).toInt64) / x).toInt32.toInt = pq c.toInt (tI w) x.toInt n := fun n hn => by
        refine lmd32 hcb.1 (hw n).1 hW ?_
        have h : c.toInt * (w n).toInt / x.toInt ≤ c.toInt := (hpq n hn).2.1
        omega
      have hsh : ∀ n, n < 60 → ∀ v : Int32, v.toInt = ex (tI w) (c.toInt - si (pq c.toInt (tI w) x.toInt) 60) n → sh c w n = ((c.toInt64 * (w n).toInt64) / x).toInt32 + v := fun n hn v hv => by
        have hb := gq_b (c := c.toInt) (w := tI w) (W := x.toInt) (N := 60) (n := n) hW hcb.1 (fun k => (hw k).1) p1.symm hn
        have he := ex_b (w := tI w) (x := c.toInt - si (pq c.toInt (tI w) x.toInt) 60) n
        have hp := hpq n hn
        unfold sh
        rw [if_neg (by omega), teq, ofI (by rw [← p1]; omega) (by rw [← p1]; omega), tadd, hdv n hn, hv, ← p1]
        · rfl
        · rw [hdv n hn, hv]; omega
        · rw [hdv n hn, hv]; omega
      clear rec
      refine wh2_inv (T := fun o => ∃ υ, o = some υ ∧ FrW 288 τ υ ∧ (∀ n, n < 60 → ∀ j', j' < 2 → υ.1 288 j' n = if j' = j then G j n + sh c w n else G j' n) ∧ ∀ n, n < 60 → υ.1 288 2 n = w n) (fun i y υ => y.toInt = c.toInt - si (pq c.toInt (tI w) x.toInt) i ∧ FrW 288 τ υ ∧ (∀ n, n < 60 → ∀ j', j' < 2 → υ.1 288 j' n = if j' = j ∧ n < i then G j n + ((c.toInt64 * (w n).toInt64) / x).toInt32 else G j' n) ∧ ∀ n, n < 60 → υ.1 288 2 n = w n) 60 (by decide) (fun i y υ hi hP => ?_) (fun y υ hP rec => ?_) ⟨by show c.toInt = c.toInt - 0; omega, FrW.refl 288 τ, fun n hn j' hj' => by rw [if_neg (by omega)]; exact h0 n hn j' hj', h2⟩
      · obtain ⟨u1, u2, u3, u4⟩ := hP
        have q1 := hpq i hi
        have q2 := hsl i (by omega)
        have q4 : si (pq c.toInt (tI w) x.toInt) (i + 1) = si (pq c.toInt (tI w) x.toInt) i + pq c.toInt (tI w) x.toInt i := rfl
        refine ⟨y - ((c.toInt64 * (w i).toInt64) / x).toInt32, up υ 288 j i (G j i + ((c.toInt64 * (w i).toInt64) / x).toInt32), ⟨?_, FrW_up u2, fun n hn j' hj' => ?_, fun n hn => by rw [up_nj (by omega)]; exact u4 n hn⟩, fun rec => ?_⟩
        · rw [q4, tsub] <;> rw [u1, hdv i hi] <;> omega
        · by_cases e : j' = j ∧ n = i
          · rw [e.1, e.2, up_eq, if_pos (by omega)]
          · have : (up υ 288 j i (G j i + ((c.toInt64 * (w i).toInt64) / x).toInt32)).1 288 j' n = υ.1 288 j' n := if_neg fun z => e ⟨z.2.1, z.2.2⟩
            rw [this, u3 n hn j' hj']
            by_cases e1 : j' = j ∧ n < i
            · rw [if_pos e1, if_pos (by omega)]
            · rw [if_neg e1, if_neg (by omega)]
        · have e0 : υ.1 288 j i = G j i := (u3 i hi j hj).trans (if_neg (by omega))
          rw [if_neg (n60 hi), if_pos (inb_nI hi (by decide)), if_pos hx64, if_pos (inb_nI hi (by decide)), if_pos (inb_nI hi (by decide)), nI_clamp (by omega), u4 i hi, e0, nI_1]
      · obtain ⟨u1, u2, u3, u4⟩ := hP
        rw [if_pos y60]
        clear rec
        obtain ⟨x0, hx0⟩ : ∃ x0, x0 = c.toInt - si (pq c.toInt (tI w) x.toInt) 60 := ⟨_, rfl⟩
        rw [← hx0] at hL u1 hsh
        have hlv : ∀ i, 0 ≤ lv (tI w) x0 i ∧ lv (tI w) x0 i ≤ 60 := fun i => by
          rw [lv_eq hL.1]
          have := cnz_b (tI w) i
          by_cases d : x0 ≤ cnz (tI w) i
          · rw [if_pos d]; omega
          · rw [if_neg d]; omega
        refine wh2_invx (T := fun o => ∃ υ, o = some υ ∧ FrW 288 τ υ ∧ (∀ n, n < 60 → ∀ j', j' < 2 → υ.1 288 j' n = if j' = j then G j n + sh c w n else G j' n) ∧ ∀ n, n < 60 → υ.1 288 2 n = w n) (fun i y υ => y.toInt = lv (tI w) x0 i ∧ FrW 288 τ υ ∧ (∀ n, n < 60 → ∀ j', j' < 2 → υ.1 288 j' n = if j' = j then (if n < i then G j n + sh c w n else G j n + ((c.toInt64 * (w n).toInt64) / x).toInt32) else G j' n) ∧ ∀ n, n < 60 → υ.1 288 2 n = w n) 60 (by decide) (fun i y υ hi hP => ?_) (fun y υ hP rec => ?_) ⟨u1, u2, fun n hn j' hj' => by
          rw [u3 n hn j' hj']
          by_cases e : j' = j
          · rw [if_pos ⟨e, hn⟩, if_pos e, if_neg (by omega)]
          · rw [if_neg (by omega), if_neg e], u4⟩
        · obtain ⟨v1, v2, v3, v4⟩ := hP
          by_cases d1 : y ≤ 0
          · refine Or.inr fun rec => ?_
            rw [if_neg (n60 hi), if_pos d1]
            rw [tle, v1, z0] at d1
            refine ⟨υ, rfl, v2, fun n hn j' hj' => ?_, v4⟩
            rw [v3 n hn j' hj']
            by_cases e : j' = j
            · rw [if_pos e, if_pos e]
              by_cases e2 : n < i
              · rw [if_pos e2]
              · rw [if_neg e2, hsh n hn 0 (by rw [(ex_zero d1 n (by omega)).1]; rfl), Int32.add_zero]
            · rw [if_neg e, if_neg e]
          · refine Or.inl ?_
            have d1' := d1
            rw [tle, v1, z0] at d1
            have hwi := (hw i).1
            have e1 : lv (tI w) x0 (i + 1) = if 0 < lv (tI w) x0 i ∧ ¬ tI w i = 0 then lv (tI w) x0 i - 1 else lv (tI w) x0 i := rfl
            have e2 : tI w i = (w i).toInt := rfl
            by_cases d2 : w i = 0
            · have d3 : (w i).toInt = 0 := by rw [d2]; rfl
              refine ⟨y, υ, ⟨by rw [e1, if_neg (by omega)]; exact v1, v2, fun n hn j' hj' => ?_, v4⟩, fun rec => ?_⟩
              · rw [v3 n hn j' hj']
                by_cases e : j' = j
                · rw [if_pos e, if_pos e]
                  by_cases e3 : n < i
                  · rw [if_pos e3, if_pos (by omega)]
                  · rw [if_neg e3]
                    by_cases e4 : n = i
                    · rw [if_pos (by omega), e4, hsh i hi 0 (by rw [(ex_b i).2.2 (e2.trans d3)]; rfl), Int32.add_zero]
                    · rw [if_neg (by omega)]
                · rw [if_neg e, if_neg e]
              · rw [if_neg (n60 hi), if_neg d1', if_pos (inb_nI hi (by decide)), nI_clamp (by omega), v4 i hi, if_pos d2, nI_1]
            · have d3 : ¬ (w i).toInt = 0 := fun z => d2 (by rw [teq, z]; rfl)
              have hex : ex (tI w) x0 i = 1 := if_pos ⟨by omega, by omega⟩
              have ez : υ.1 288 j i = G j i + ((c.toInt64 * (w i).toInt64) / x).toInt32 := by rw [v3 i hi j hj, if_pos rfl, if_neg (by omega)]
              have hli := hlv i
              refine ⟨y + (-1), up υ 288 j i (G j i + sh c w i), ⟨?_, FrW_up v2, fun n hn j' hj' => ?_, fun n hn => by rw [up_nj (by omega)]; exact v4 n hn⟩, fun rec => ?_⟩
              · rw [e1, if_pos ⟨by omega, by omega⟩, tadd] <;> rw [v1, show (-1 : Int32).toInt = -1 from rfl] <;> omega
              · by_cases e : j' = j ∧ n = i
                · rw [e.1, e.2, up_eq, if_pos rfl, if_pos (by omega)]
                · have : (up υ 288 j i (G j i + sh c w i)).1 288 j' n = υ.1 288 j' n := if_neg fun z => e ⟨z.2.1, z.2.2⟩
                  rw [this, v3 n hn j' hj']
                  by_cases e3 : j' = j
                  · rw [if_pos e3, if_pos e3]
                    by_cases e4 : n < i
                    · rw [if_pos e4, if_pos (by omega)]
                    · rw [if_neg e4, if_neg (by omega)]
                  · rw [if_neg e3, if_neg e3]
              · rw [if_neg (n60 hi), if_neg d1', if_pos (inb_nI hi (by decide)), nI_clamp (by omega), v4 i hi, if_neg d2, if_pos (inb_nI hi (by decide)), if_pos (inb_nI hi (by decide)), ez, nI_1, hsh i hi 1 (by rw [hex]; rfl), Int32.add_assoc]
        · obtain ⟨v1, v2, v3, v4⟩ := hP
          rw [if_pos y60]
          refine ⟨υ, rfl, v2, fun n hn j' hj' => ?_, v4⟩
          rw [v3 n hn j' hj', if_pos hn]
    · rw [if_neg (fun z => hW ((lgp x).mp z))]
      refine ⟨τ, rfl, FrW.refl 288 τ, fun n hn j' hj' => ?_, h2⟩
      rw [h0 n hn j' hj']
      by_cases e : j' = j
      · rw [if_pos e, e]
        unfold sh
        rw [if_pos (by omega), Int32.add_zero]
      · rw [if_neg e]
theorem shareI_c {σ : Sto} {gi gp w : Gf} (hA : PA σ gi gp w) (hw : Wok w) {c : Int32} (hcb : 0 ≤ c.toInt ∧ c.toInt ≤ 1000000000) : ∃ τ, dc_X8_shareOut c 0 σ = some τ ∧ FrW 288 σ τ ∧ PA τ (fun n => gi n + sh c w n) gp w := by
  obtain ⟨τ, t1, t2, t3, t4⟩ := shareOut_c (j := 0) (G := fun j => if j = 0 then gi else gp) (by decide) (fun n hn j' hj' => by
    rcases (show j' = 0 ∨ j' = 1 by omega) with rfl | rfl
    · exact (hA n hn).1
    · exact (hA n hn).2.1) (fun n hn => (hA n hn).2.2) hw hcb
  exact ⟨τ, t1, t2, fun n hn => ⟨t3 n hn 0 (by decide), t3 n hn 1 (by decide), t4 n hn⟩⟩
theorem shareP_c {σ : Sto} {gi gp w : Gf} (hA : PA σ gi gp w) (hw : Wok w) {c : Int32} (hcb : 0 ≤ c.toInt ∧ c.toInt ≤ 1000000000) : ∃ τ, dc_X8_shareOut c 1 σ = some τ ∧ FrW 288 σ τ ∧ PA τ gi (fun n => gp n + sh c w n) w := by
  obtain ⟨τ, t1, t2, t3, t4⟩ := shareOut_c (j := 1) (G := fun j => if j = 0 then gi else gp) (by decide) (fun n hn j' hj' => by
    rcases (show j' = 0 ∨ j' = 1 by omega) with rfl | rfl
    · exact (hA n hn).1
    · exact (hA n hn).2.1) (fun n hn => (hA n hn).2.2) hw hcb
  exact ⟨τ, t1, t2, fun n hn => ⟨t3 n hn 0 (by decide), t3 n hn 1 (by decide), t4 n hn⟩⟩
/-- by class -/
theorem byClass_c {σ : Sto} {m : Mt} {gi gp w : Gf} (hr : Cla σ 0 m) (hc : Cnt m) (hk : Kin m) (hp : Pb m) (l : Int32) {c0 c1 : Int32} (h0 : 0 ≤ c0.toInt ∧ c0.toInt ≤ 1000000000) (h1 : 0 ≤ c1.toInt ∧ c1.toInt ≤ 1000000000) (hA : PA σ gi gp w) (hz : ∀ n, nc m ≤ n → w n = 0) : ∃ τ, dc_X8_shareByClass 0 l c0 c1 σ = some τ ∧ FrW 288 σ τ ∧ PA τ gi (fun n => gp n + sh c0 (wt m l 0) n + sh c1 (wt m l 1) n) (wt m l 1) := by
  obtain ⟨τ1, a1, a2, a3⟩ := weigh_c hr hc hk l 0 (Or.inl rfl) hA hz
  obtain ⟨τ2, b1, b2, b3⟩ := shareP_c a3 (wt_ok hp l 0) h0
  have hr2 := b2.cla (a2.cla hr)
  obtain ⟨τ3, c1', c2, c3⟩ := weigh_c hr2 hc hk l 1 (Or.inr (Or.inl rfl)) b3 (fun n hn => wt_out hn)
  obtain ⟨τ4, d1, d2, d3⟩ := shareP_c c3 (wt_ok hp l 1) h1
  have a1' : dc_X8_weighPrincipals 0 l 1 0 σ = some τ1 := a1
  have c1'' : dc_X8_weighPrincipals 0 l 0 1 τ2 = some τ3 := c1'
  unfold dc_X8_shareByClass
  rw [a1', bv_s, b1, bv_s, c1'', bv_s, d1, bv_s]
  exact ⟨τ4, rfl, ⟨fun f hf => by rw [d2.1 f hf, c2.1 f hf, b2.1 f hf, a2.1 f hf], by rw [d2.2, c2.2, b2.2, a2.2]⟩, d3⟩
