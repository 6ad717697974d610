/-! THE LAW'S SHARES -/
theorem f10 : ((1 : Int32) = 0) = False := eq_false (by decide)
theorem t00 : ((0 : Int32) = 0) = True := eq_true rfl
theorem lshare_eq {σ : Sto} {m : Mt} (h : Lr σ m) (hc : Cnt m) (hn : nc m ≤ 10) (hp : Pb m) (l a s : Int32) (hs : (a < 0 ∧ s = 2) ∨ (¬ a < 0 ∧ a = s ∧ ¬ s = 2)) {c : Int32} (hcb : 0 ≤ c.toInt ∧ c.toInt ≤ 1000000000) : ∃ τ, dc_L_share l a c σ = some τ ∧ FrW 384 σ τ ∧ ∀ n, n < nc m → τ.1 384 0 n = sh c (wt m l s) n := by
  obtain ⟨h3, hn'⟩ := hc.c
  have z0 : (0 : Int32).toInt = 0 := rfl
  unfold dc_L_share
  rw [lpr_eq h hc hn l a s hs, bd_s]
  have hW := pr_tot hc hp l s
  obtain ⟨W, eW⟩ : ∃ W, W = pr m l s := ⟨_, rfl⟩
  rw [← eW] at hW ⊢
  have hw : Wok (wt m l s) := wt_ok hp l s
  have hz : ∀ n, nc m ≤ n → wt m l s n = 0 := fun n hn => wt_out hn
  -- when a note gets something
  have hin : ∀ i, i < nc m → ¬ wt m l s i = 0 → m (144 + 7 * i + 1) = l ∧ (a < 0 ∨ (¬ a < 0 ∧ m (144 + 7 * i + 2) = a)) ∧ ¬ m (144 + 7 * i + 3) ≤ 0 ∧ wt m l s i = m (144 + 7 * i + 3) := fun i hi hne => by
    have hwi := (hw i).1
    unfold wt at hne hwi ⊢
    by_cases d : i < nc m ∧ m (144 + 7 * i + 1) = l ∧ (s = 2 ∨ m (144 + 7 * i + 2) = s)
    · rw [if_pos d] at hne hwi ⊢
      refine ⟨d.2.1, ?_, ?_, rfl⟩
      · rcases hs with ⟨c2, c3⟩ | ⟨c2, c3, c4⟩
        · exact Or.inl c2
        · exact Or.inr ⟨c2, by rw [c3]; exact d.2.2.resolve_left c4⟩
      · intro z
        rw [tle, z0] at z
        exact hne (by rw [teq, z0]; omega)
    · rw [if_neg d] at hne
      exact absurd rfl hne
  have hout : ∀ i, i < nc m → wt m l s i = 0 → m (144 + 7 * i + 1) = l → (a < 0 ∨ (¬ a < 0 ∧ m (144 + 7 * i + 2) = a)) → m (144 + 7 * i + 3) ≤ 0 := fun i hi he c1 c2 => by
    unfold wt at he
    rw [if_pos ⟨hi, c1, by
      rcases hs with ⟨d2, d3⟩ | ⟨d2, d3, d4⟩
      · exact Or.inl d3
      · rcases c2 with c2 | c2
        · exact absurd c2 d2
        · exact Or.inr (c2.2.trans d3)⟩] at he
    rw [he]
    decide
  obtain ⟨w, hwd⟩ : ∃ w, w = wt m l s := ⟨_, rfl⟩
  rw [← hwd] at hW hw hz hin hout ⊢
  have hsw := hw.s
  -- the first value of a row
  obtain ⟨q, hq⟩ : ∃ q : Gf, q = fun n => ((c.toInt64 * (w n).toInt64) / W.toInt64).toInt32 := ⟨_, rfl⟩
  obtain ⟨fv, hfv⟩ : ∃ fv : Gf, fv = fun n => if w n = 0 then -1 else q n := ⟨_, rfl⟩
  have hWi : ∀ n, (w n).toInt ≤ W.toInt := fun n => by
    by_cases e : n < 60
    · rw [hW]; exact si_ge (f := tI w) (fun k _ => (hw k).1) e
    · rw [hz n (by omega), z0]; omega
  have hWp : ∀ n, ¬ w n = 0 → 0 < W.toInt := fun n hne => by
    have h1 := (hw n).1
    have h2 := hWi n
    have h3 : ¬ (w n).toInt = 0 := fun z => hne (by rw [teq, z, z0])
    omega
  have hW64 : 0 < W.toInt → ¬ W.toInt64 = 0 := fun hp z => by
    have := congrArg Int64.toInt z
    rw [Int32.toInt_toInt64, show (0 : Int64).toInt = 0 from rfl] at this
    omega
  have hpq : 0 < W.toInt → ∀ n, 0 ≤ pq c.toInt (tI w) W.toInt n ∧ pq c.toInt (tI w) W.toInt n ≤ c.toInt ∧ (tI w n = 0 → pq c.toInt (tI w) W.toInt n = 0) := fun hp n => pq_b hp hcb.1 (hw n).1 (hWi n)
  have hdv : 0 < W.toInt → ∀ n, (q n).toInt = pq c.toInt (tI w) W.toInt n := fun hp n => by rw [hq]; exact part32 hcb (hw n).1 hp (hWi n)
  obtain ⟨S, hS⟩ : ∃ S : Nat → Int, S = fun i => if 0 < W.toInt then si (pq c.toInt (tI w) W.toInt) i else 0 := ⟨_, rfl⟩
  have hS1 : ∀ i, S (i + 1) = S i + if w i = 0 then 0 else pq c.toInt (tI w) W.toInt i := fun i => by
    rw [hS]
    show (if 0 < W.toInt then _ else _) = (if 0 < W.toInt then _ else _) + _
    by_cases hp : 0 < W.toInt
    · rw [if_pos hp, if_pos hp]
      show si (pq c.toInt (tI w) W.toInt) i + pq c.toInt (tI w) W.toInt i = _
      by_cases e : w i = 0
      · rw [if_pos e, (hpq hp i).2.2 (by show (w i).toInt = 0; rw [e, z0])]
      · rw [if_neg e]
    · rw [if_neg hp, if_neg hp, if_pos (Classical.byContradiction fun e => hp (hWp i e))]
      rfl
  have hS0 : S 0 = (0 : Int32).toInt := by
    rw [hS]
    show (if 0 < W.toInt then _ else _) = _
    by_cases hp : 0 < W.toInt
    · rw [if_pos hp]; rfl
    · rw [if_neg hp]; rfl
  have hSb : ∀ i, i ≤ 60 → 0 ≤ S i ∧ S i ≤ c.toInt := fun i hi => by
    rw [hS]
    show 0 ≤ (if 0 < W.toInt then _ else _) ∧ (if 0 < W.toInt then _ else _) ≤ _
    by_cases hp : 0 < W.toInt
    · rw [if_pos hp]
      have hL := left_b (c := c.toInt) (W := W.toInt) (w := tI w) (N := 60) hp hcb.1 (fun n => (hw n).1) hW.symm
      have a := si_nn (f := pq c.toInt (tI w) W.toInt) (n := i) fun k _ => (hpq hp k).1
      have b := si_mono (f := pq c.toInt (tI w) W.toInt) (i := i) (j := 60) hi fun k _ => (hpq hp k).1
      omega
    · rw [if_neg hp]; omega
  have g2 : ∀ τ : Sto, FrW 384 σ τ → τ.1 304 0 2 = nI (nc m) := fun τ hf => ((h.fr hf) _ _ _ rg2).trans h3
  refine wh2_inv (T := fun o => ∃ τ, o = some τ ∧ FrW 384 σ τ ∧ ∀ n, n < nc m → τ.1 384 0 n = sh c w n) (fun i x τ => x.toInt = S i ∧ FrW 384 σ τ ∧ ∀ n, n < i → τ.1 384 0 n = fv n) (nc m) (by omega) (fun i x τ hi hP => ?_) (fun x τ hP rec => ?_) ⟨hS0.symm, FrW.refl 384 σ, fun n hn => absurd hn (Nat.not_lt_zero n)⟩
  · obtain ⟨p1, p2, p3⟩ := hP
    have hL := h.fr p2
    have n1 := hL _ _ _ (rn1 (show i < 10 by omega))
    have n2 := hL _ _ _ (rn2 (show i < 10 by omega))
    have n3 := hL _ _ _ (rn3 (show i < 10 by omega))
    have e1 := hS1 i
    have b1 := hSb i (by omega)
    have b2 := hSb (i + 1) (by omega)
    have hrow : ∀ v, v = fv i → ∀ n, n < i + 1 → (up τ 384 0 i v).1 384 0 n = fv n := fun v hv n hn => by
      by_cases e : n = i
      · rw [e, up_eq, hv]
      · rw [up_nl e]; exact p3 n (by omega)
    by_cases e : w i = 0
    · rw [if_pos e] at e1
      refine ⟨x, up τ 384 0 i (-1), ⟨by omega, FrW_up p2, hrow _ (by rw [hfv]; exact (if_pos e).symm)⟩, fun rec => ?_⟩
      simp (disch := omega) only [jn, i92, if_true, cl_2, g2 τ p2, xm6, xp1, xp2, xp3, inT60, inT10, clN, n1, n2, n3, f10, t00, if_false, Int32.add_zero]
      rw [if_neg (by rw [nI_leI (by omega) (by omega)]; omega)]
      have ho := hout i hi e
      by_cases c1 : m (144 + 7 * i + 1) = l
      · rw [if_pos c1]
        by_cases c2 : a < 0
        · rw [if_pos c2, if_pos (ho c1 (Or.inl c2))]
        · rw [if_neg c2]
          by_cases c3 : m (144 + 7 * i + 2) = a
          · rw [if_pos c3, if_pos (ho c1 (Or.inr ⟨c2, c3⟩))]
          · rw [if_neg c3]
      · rw [if_neg c1]
    · rw [if_neg e] at e1
      have hp := hWp i e
      obtain ⟨d1, d2, d3, d4⟩ := hin i hi e
      refine ⟨x + q i, up τ 384 0 i (q i), ⟨by rw [tadd] <;> rw [hdv hp i] <;> omega, FrW_up p2, hrow _ (by rw [hfv]; exact (if_neg e).symm)⟩, fun rec => ?_⟩
      have hq' : (c.toInt64 * (m (144 + 7 * i + 3)).toInt64 / W.toInt64).toInt32 = q i := by rw [hq]; show _ = (c.toInt64 * (w i).toInt64 / W.toInt64).toInt32; rw [d4]
      simp (disch := omega) only [jn, i92, if_true, cl_2, g2 τ p2, xm6, xp1, xp2, xp3, inT60, inT10, clN, n1, n2, n3, f10, t00, if_false, Int32.add_zero, up_eq]
      rw [if_neg (by rw [nI_leI (by omega) (by omega)]; omega), if_pos d1]
      rcases d2 with d2 | ⟨d2, d5⟩
      · rw [if_pos d2, if_neg d3, if_pos (hW64 hp), hq']
      · rw [if_neg d2, if_pos d5, if_neg d3, if_pos (hW64 hp), hq']
  · obtain ⟨p1, p2, p3⟩ := hP
    simp (disch := omega) only [i92, if_true, cl_2, g2 τ p2]
    rw [if_pos (by rw [nI_leI (by omega) (by omega)]; omega)]
    clear rec
    obtain ⟨x0, hx0⟩ : ∃ x0, x0 = c.toInt - S (nc m) := ⟨_, rfl⟩
    have hSn : 0 < W.toInt → S (nc m) = si (pq c.toInt (tI w) W.toInt) 60 := fun hp => by
      rw [hS]
      show (if 0 < W.toInt then _ else _) = _
      rw [if_pos hp]
      exact (si_ext hn' fun n h1 _ => (hpq hp n).2.2 (by show (w n).toInt = 0; rw [hz n h1, z0])).symm
    have hx00 : 0 ≤ x0 := by have := hSb (nc m) (by omega); omega
    have hsh : ∀ n, n < nc m → ¬ w n = 0 → ∀ v : Int32, v.toInt = ex (tI w) x0 n → sh c w n = q n + v := fun n hn hne v hv => by
      have hp := hWp n hne
      have hL := left_b (c := c.toInt) (W := W.toInt) (w := tI w) (N := 60) hp hcb.1 (fun n => (hw n).1) hW.symm
      rw [← hSn hp, ← hx0] at hL
      have hb := gq_b (c := c.toInt) (w := tI w) (W := W.toInt) (N := 60) (n := n) hp hcb.1 (fun k => (hw k).1) hW.symm (by omega)
      have he := ex_b (w := tI w) (x := x0) n
      have hpn := hpq hp n
      unfold sh
      rw [if_neg (by omega), teq, ofI (by rw [← hW]; omega) (by rw [← hW]; omega), tadd, hdv hp n, hv, ← hW, hx0, hSn hp]
      · rfl
      · rw [hdv hp n, hv]; omega
      · rw [hdv hp n, hv]; omega
    have hsh0 : ∀ n, n < nc m → w n = 0 → sh c w n = 0 := fun n hn he => (sh_b (n := n) hw hcb (by omega)).2.2.1 he
    have hlv : ∀ i, lv (tI w) x0 (i + 1) = if 0 < lv (tI w) x0 i ∧ ¬ tI w i = 0 then lv (tI w) x0 i - 1 else lv (tI w) x0 i := fun i => rfl
    have hlb : ∀ i, 0 ≤ lv (tI w) x0 i ∧ lv (tI w) x0 i ≤ x0 := fun i => by
      rw [lv_eq hx00]
      have := cnz_b (tI w) i
      by_cases d : x0 ≤ cnz (tI w) i
      · rw [if_pos d]; omega
      · rw [if_neg d]; omega
    have hSc := hSb (nc m) (by omega)
    refine wh2_inv (T := fun o => ∃ τ, o = some τ ∧ FrW 384 σ τ ∧ ∀ n, n < nc m → τ.1 384 0 n = sh c w n) (fun i x υ => x.toInt = c.toInt - lv (tI w) x0 i ∧ FrW 384 σ υ ∧ (∀ n, n < i → υ.1 384 0 n = sh c w n) ∧ ∀ n, i ≤ n → n < nc m → υ.1 384 0 n = fv n) (nc m) (by omega) (fun i x υ hi hP => ?_) (fun x υ hP rec => ?_) ⟨by show _ = c.toInt - x0; omega, p2, fun n hn => absurd hn (Nat.not_lt_zero n), fun n _ hn' => p3 n hn'⟩
    · obtain ⟨u1, u2, u3, u4⟩ := hP
      have e4 := u4 i (Nat.le_refl i) hi
      have e5 := hlv i
      have b5 := hlb i
      have hrow : ∀ v, v = sh c w i → (∀ n, n < i + 1 → (up υ 384 0 i v).1 384 0 n = sh c w n) ∧ ∀ n, i + 1 ≤ n → n < nc m → (up υ 384 0 i v).1 384 0 n = fv n := fun v hv => ⟨fun n hn => by
        by_cases e : n = i
        · rw [e, up_eq, hv]
        · rw [up_nl e]; exact u3 n (by omega), fun n h1 h2 => by rw [up_nl (by omega)]; exact u4 n (by omega) h2⟩
      rw [hfv] at e4
      replace e4 : υ.1 384 0 i = if w i = 0 then -1 else q i := e4
      have tw : tI w i = (w i).toInt := rfl
      by_cases e : w i = 0
      · rw [if_pos e] at e4
        rw [if_neg (fun z => z.2 (by rw [tw, e, z0]))] at e5
        refine ⟨x, up υ 384 0 i 0, ⟨by omega, FrW_up u2, hrow 0 (hsh0 i hi e).symm⟩, fun rec => ?_⟩
        simp (disch := omega) only [i92, if_true, cl_2, g2 υ u2, inT10, clN, e4, xp1]
        rw [if_neg (by rw [nI_leI (by omega) (by omega)]; omega), if_neg (by decide)]
      · rw [if_neg e] at e4
        have hp := hWp i e
        have hq0 : 0 ≤ q i := by rw [tle, hdv hp i, z0]; exact (hpq hp i).1
        have tne0 : ¬ tI w i = 0 := fun z => e (by rw [teq, z0]; exact z)
        by_cases d : c ≤ x
        · have d' := d
          rw [tle, u1] at d'
          have l0 : lv (tI w) x0 i = 0 := by omega
          have ez : ex (tI w) x0 i = 0 := by
            unfold ex
            rw [if_neg (by omega)]
          rw [if_neg (by omega)] at e5
          refine ⟨x, υ, ⟨by omega, u2, fun n hn => ?_, fun n h1 h2 => u4 n (by omega) h2⟩, fun rec => ?_⟩
          · by_cases en : n = i
            · rw [en, e4, hsh i hi e 0 (by rw [ez, z0]), Int32.add_zero]
            · exact u3 n (by omega)
          · simp (disch := omega) only [i92, if_true, cl_2, g2 υ u2, inT10, clN, e4, xp1]
            rw [if_neg (by rw [nI_leI (by omega) (by omega)]; omega), if_pos hq0, if_pos d]
        · have d' := d
          rw [tle, u1] at d'
          have ez : ex (tI w) x0 i = 1 := by
            unfold ex
            rw [if_pos ⟨by omega, tne0⟩]
          rw [if_pos ⟨by omega, tne0⟩] at e5
          refine ⟨x + 1, up υ 384 0 i (q i + 1), ⟨by rw [tadd] <;> rw [u1, show (1 : Int32).toInt = 1 from rfl] <;> omega, FrW_up u2, hrow _ (hsh i hi e 1 (by rw [ez]; rfl)).symm⟩, fun rec => ?_⟩
          simp (disch := omega) only [i92, if_true, cl_2, g2 υ u2, inT10, clN, e4, xp1]
          rw [if_neg (by rw [nI_leI (by omega) (by omega)]; omega), if_pos hq0, if_neg d]
    · obtain ⟨u1, u2, u3, u4⟩ := hP
      simp (disch := omega) only [i92, if_true, cl_2, g2 υ u2]
      rw [if_pos (by rw [nI_leI (by omega) (by omega)]; omega)]
      exact ⟨υ, rfl, u2, u3⟩
