/-! weights and shares of the reference -/
def wt (m : Mt) (l s : Int32) : Gf := fun n => if n < nc m ∧ m (144 + 7 * n + 1) = l ∧ (s = 2 ∨ m (144 + 7 * n + 2) = s) then m (144 + 7 * n + 3) else 0
/-- the principals of the notes are small -/
def Pb (m : Mt) : Prop := ∀ n, n < nc m → 0 ≤ (m (144 + 7 * n + 3)).toInt ∧ (m (144 + 7 * n + 3)).toInt ≤ 99999
theorem InvM.pb {K : Int} {m : Mt} (h : InvM K m) : Pb m := fun n hn => (h.2.2.2.2.2.2.1 n hn).2.2.2.1
theorem wt_ok {m : Mt} (h : Pb m) (l s : Int32) : Wok (wt m l s) := fun n => by
  unfold wt
  by_cases c : n < nc m ∧ m (144 + 7 * n + 1) = l ∧ (s = 2 ∨ m (144 + 7 * n + 2) = s)
  · rw [if_pos c]; exact h n c.1
  · rw [if_neg c]; decide
theorem wt_out {m : Mt} {l s : Int32} {n : Nat} (h : nc m ≤ n) : wt m l s n = 0 := if_neg fun z => by omega
theorem si_mono {f : Nat → Int} {i : Nat} : ∀ {j : Nat}, i ≤ j → (∀ k, k < j → 0 ≤ f k) → si f i ≤ si f j
  | 0, h, _ => by rw [show i = 0 by omega]; exact Int.le_refl _
  | j + 1, h, hf => by
    by_cases e : i = j + 1
    · rw [e]; exact Int.le_refl _
    · have := si_mono (j := j) (f := f) (i := i) (by omega) fun k hk => hf k (by omega)
      have := hf j (by omega)
      show si f i ≤ si f j + f j
      omega
theorem pr_tot {m : Mt} (hc : Cnt m) (h : Pb m) (l s : Int32) : (pr m l s).toInt = si (tI (wt m l s)) 60 := by
  have hn := hc.c.2
  have hw := wt_ok h l s
  have key : ∀ k, k ≤ nc m → (itN (fun n x => if m (144 + 7 * n + 1) = l ∧ (s = 2 ∨ m (144 + 7 * n + 2) = s) then x + m (144 + 7 * n + 3) else x) 0 k 0).toInt = si (tI (wt m l s)) k := by
    intro k
    induction k with
    | zero => intro _; rfl
    | succ k ih =>
      intro hk
      have e := ih (by omega)
      have b1 := si_nn (f := tI (wt m l s)) (n := k) fun j _ => (hw j).1
      have b2 := si_mono (f := tI (wt m l s)) (i := k) (j := 60) (by omega) fun j _ => (hw j).1
      have b3 := hw.s
      have b4 := hw k
      rw [itN_succ, Nat.zero_add]
      show _ = si (tI (wt m l s)) k + (wt m l s k).toInt
      unfold wt at b4
      by_cases c : m (144 + 7 * k + 1) = l ∧ (s = 2 ∨ m (144 + 7 * k + 2) = s)
      · have ew : wt m l s k = m (144 + 7 * k + 3) := if_pos ⟨by omega, c⟩
        rw [if_pos ⟨by omega, c⟩] at b4
        rw [if_pos c, ew, tadd, e] <;> omega
      · have ew : wt m l s k = 0 := if_neg fun z => c z.2
        rw [if_neg c, ew, e]
        show _ = _ + (0 : Int)
        omega
  rw [si_ext hn fun n h1 _ => by
    show (wt m l s n).toInt = 0
    rw [wt_out h1]
    rfl]
  exact key (nc m) (Nat.le_refl _)
def FrW (a : Nat) (σ τ : Sto) : Prop := (∀ f, f ≠ a → τ.1 f = σ.1 f) ∧ τ.2 = σ.2
theorem FrW.refl (a : Nat) (σ : Sto) : FrW a σ σ := ⟨fun _ _ => rfl, rfl⟩
theorem FrW_up {a : Nat} {σ τ : Sto} {j l : Nat} {v : Int32} (h : FrW a σ τ) : FrW a σ (up τ a j l v) := ⟨fun f hf => (up_f hf).trans (h.1 f hf), h.2⟩
theorem FrW.mod {a : Nat} {σ τ : Sto} {m : Mt} (h : FrW a σ τ) (ha : a ≠ 304) (hm : Mod σ m) : Mod τ m := fun k hk => by rw [h.1 304 (fun z => ha z.symm)]; exact hm k hk
theorem weigh_m {σ : Sto} {m : Mt} (hm : Mod σ m) (hc : Cnt m) (l s : Int32) : ∃ τ, dc_X10_weigh l s σ = some (pr m l s, τ) ∧ FrW 384 σ τ ∧ ∀ n, n < nc m → τ.1 384 0 n = wt m l s n := by
  obtain ⟨h3, hn⟩ := hc.c
  unfold dc_X10_weigh
  refine wh2_inv (T := fun o => ∃ τ, o = some (pr m l s, τ) ∧ FrW 384 σ τ ∧ ∀ n, n < nc m → τ.1 384 0 n = wt m l s n) (fun i x τ => x = itN (fun n x => if m (144 + 7 * n + 1) = l ∧ (s = 2 ∨ m (144 + 7 * n + 2) = s) then x + m (144 + 7 * n + 3) else x) 0 i 0 ∧ FrW 384 σ τ ∧ ∀ n, n < i → τ.1 384 0 n = wt m l s n) (nc m) (by omega) (fun i x τ hi hP => ?_) (fun x τ hP rec => ?_) ⟨rfl, FrW.refl 384 σ, fun n hn => absurd hn (Nat.not_lt_zero n)⟩
  · obtain ⟨p1, p2, p3⟩ := hP
    have hm' := p2.mod (by decide) hm
    refine ⟨x + wt m l s i, up τ 384 0 i (wt m l s i), ⟨?_, FrW_up p2, fun n hn' => ?_⟩, fun rec => ?_⟩
    · rw [itN_succ, ← p1, Nat.zero_add]
      unfold wt
      by_cases c : m (144 + 7 * i + 1) = l ∧ (s = 2 ∨ m (144 + 7 * i + 2) = s)
      · rw [if_pos ⟨hi, c⟩, if_pos c]
      · rw [if_neg (fun z => c z.2), if_neg c, Int32.add_zero]
    · by_cases e : n = i
      · rw [e, up_eq]
      · rw [up_nl e]; exact p3 n (by omega)
    · rw [if_pos ib_3, cl_3, hm' 3 (by decide), h3, if_neg (by rw [nI_leI (by omega) (by omega)]; omega), on_1 hm' (by omega), bd_s]
      have k : ∀ K : Int32 → Sto → Option (Int32 × Sto), jn K (fun k9 => if m (144 + 7 * i + 1) = l then (if s = 2 then (bd (dc_X10_ofNote (nI i) 3 τ) fun r10 σ11 => k9 r10 σ11) else (bd (dc_X10_ofNote (nI i) 2 τ) fun r12 σ13 => (if r12 = s then (bd (dc_X10_ofNote (nI i) 3 σ13) fun r14 σ15 => k9 r14 σ15) else k9 (0 : Int32) σ13))) else k9 (0 : Int32) τ) = K (wt m l s i) τ := fun K => by
        show (if m (144 + 7 * i + 1) = l then (if s = 2 then (bd (dc_X10_ofNote (nI i) 3 τ) fun r10 σ11 => K r10 σ11) else (bd (dc_X10_ofNote (nI i) 2 τ) fun r12 σ13 => (if r12 = s then (bd (dc_X10_ofNote (nI i) 3 σ13) fun r14 σ15 => K r14 σ15) else K (0 : Int32) σ13))) else K (0 : Int32) τ) = _
        rw [on_3 hm' (by omega), bd_s, on_2 hm' (by omega), bd_s, on_3 hm' (by omega), bd_s]
        unfold wt
        by_cases c1 : m (144 + 7 * i + 1) = l
        · rw [if_pos c1]
          by_cases c2 : s = 2
          · rw [if_pos c2, if_pos ⟨hi, c1, Or.inl c2⟩]
          · rw [if_neg c2]
            by_cases c3 : m (144 + 7 * i + 2) = s
            · rw [if_pos c3, if_pos ⟨hi, c1, Or.inr c3⟩]
            · rw [if_neg c3, if_neg (fun z => z.2.2.elim c2 c3)]
        · rw [if_neg c1, if_neg (fun z => c1 z.2.1)]
      rw [k, if_pos (inb_nI (show i < 60 by omega) (by decide)), if_pos (inb_nI (show i < 60 by omega) (by decide)), nI_clamp (by omega), up_eq, nI_1]
  · obtain ⟨p1, p2, p3⟩ := hP
    have hm' := p2.mod (by decide) hm
    rw [if_pos ib_3, cl_3, hm' 3 (by decide), h3, if_pos (by rw [nI_leI (by omega) (by omega)]; omega), p1]
    exact ⟨τ, rfl, p2, p3⟩
theorem wh2_one {A R : Type} {b : (A → Int32 → Sto → Option R) → A → Int32 → Sto → Option R} {x : A} {y : Int32} {σ : Sto} {T : Option R → Prop} (h : ∀ rec, T (b rec x y σ)) : T (wh2 b FU x y σ) := h (wh2 b 99999)
/-- the parts, as 32 bits -/
theorem part32 {c W wn : Int32} (hc : 0 ≤ c.toInt ∧ c.toInt ≤ 1000000000) (hw : 0 ≤ wn.toInt) (hW : 0 < W.toInt) (hle : wn.toInt ≤ W.toInt) : ((c.toInt64 * wn.toInt64) / W.toInt64).toInt32.toInt = c.toInt * wn.toInt / W.toInt := by
  have e : W.toInt64.toInt = W.toInt := Int32.toInt_toInt64 W
  have h : c.toInt * wn.toInt / W.toInt ≤ c.toInt := (pq_b (c := c.toInt) (W := W.toInt) (w := fun _ => wn.toInt) (n := 0) hW hc.1 hw hle).2.1
  have := lmd32 (x := c) (y := wn) (z := W.toInt64) hc.1 hw (by rw [e]; exact hW) (by rw [e]; omega)
  rw [this, e]
theorem share_m {σ : Sto} {m : Mt} (hm : Mod σ m) (hc : Cnt m) {w : Gf} (hw : Wok w) (hz : ∀ n, nc m ≤ n → w n = 0) (h384 : ∀ n, n < nc m → σ.1 384 0 n = w n) {c W : Int32} (hcb : 0 ≤ c.toInt ∧ c.toInt ≤ 1000000000) (hW : W.toInt = si (tI w) 60) : ∃ τ, dc_X10_share c W σ = some τ ∧ FrW 400 σ τ ∧ ∀ n, n < nc m → τ.1 400 0 n = sh c w n := by
  obtain ⟨h3, hn⟩ := hc.c
  have hs := hw.s
  have z0 : (0 : Int32).toInt = 0 := rfl
  unfold dc_X10_share
  by_cases hW0 : W = 0
  · -- nothing to share by
    have hS : si (tI w) 60 = 0 := by rw [← hW, hW0]; rfl
    refine wh2_inv (T := fun o => ∃ τ, o = some τ ∧ FrW 400 σ τ ∧ ∀ n, n < nc m → τ.1 400 0 n = sh c w n) (fun i x τ => FrW 400 σ τ ∧ ∀ n, n < i → τ.1 400 0 n = 0) (nc m) (by omega) (fun i x τ hi hP => ?_) (fun x τ hP rec => ?_) ⟨FrW.refl 400 σ, fun n hn => absurd hn (Nat.not_lt_zero n)⟩
    · obtain ⟨p2, p3⟩ := hP
      have hm' := p2.mod (by decide) hm
      refine ⟨x - 0, up τ 400 0 i 0, ⟨FrW_up p2, fun n hn' => ?_⟩, fun rec => ?_⟩
      · by_cases e : n = i
        · rw [e, up_eq]
        · rw [up_nl e]; exact p3 n (by omega)
      · simp only [jn]
        rw [if_pos ib_3, cl_3, hm' 3 (by decide), h3, if_neg (by rw [nI_leI (by omega) (by omega)]; omega), if_pos hW0, if_pos (inb_nI (show i < 60 by omega) (by decide)), if_pos (inb_nI (show i < 60 by omega) (by decide)), nI_clamp (by omega), up_eq, nI_1]
    · obtain ⟨p2, p3⟩ := hP
      have hm' := p2.mod (by decide) hm
      rw [if_pos ib_3, cl_3, hm' 3 (by decide), h3, if_pos (by rw [nI_leI (by omega) (by omega)]; omega)]
      have fin : ∃ υ, some τ = some υ ∧ FrW 400 σ υ ∧ ∀ n, n < nc m → υ.1 400 0 n = sh c w n := ⟨τ, rfl, p2, fun n hn' => by
        rw [p3 n hn']
        unfold sh
        rw [if_pos (by omega)]⟩
      refine wh2_one (T := fun o => ∃ τ, o = some τ ∧ FrW 400 σ τ ∧ ∀ n, n < nc m → τ.1 400 0 n = sh c w n) fun rec => ?_
      rw [if_pos ib_3, hm' 3 (by decide), h3]
      by_cases e : nI (nc m) ≤ 0
      · rw [if_pos e]; exact fin
      · rw [if_neg e, if_pos (by rw [hW0]; decide)]; exact fin
  · have hWp : 0 < W.toInt := by
      have : ¬ W.toInt = 0 := fun z => hW0 (by rw [teq, z]; rfl)
      omega
    have hWi : ∀ n, (w n).toInt ≤ W.toInt := fun n => by
      by_cases e : n < 60
      · rw [hW]; exact si_ge (f := tI w) (fun k _ => (hw k).1) e
      · rw [hz n (by omega), z0]; omega
    have hpq : ∀ n, 0 ≤ pq c.toInt (tI w) W.toInt n ∧ pq c.toInt (tI w) W.toInt n ≤ c.toInt ∧ (tI w n = 0 → pq c.toInt (tI w) W.toInt n = 0) := fun n => pq_b hWp hcb.1 (hw n).1 (hWi n)
    have hL := left_b (c := c.toInt) (W := W.toInt) (w := tI w) (N := 60) hWp hcb.1 (fun n => (hw n).1) hW.symm
    have hcz := cnz_b (tI w) 60
    have hpz : ∀ n, nc m ≤ n → pq c.toInt (tI w) W.toInt n = 0 := fun n h => (hpq n).2.2 (by show (w n).toInt = 0; rw [hz n h]; rfl)
    have hsi : si (pq c.toInt (tI w) W.toInt) 60 = si (pq c.toInt (tI w) W.toInt) (nc m) := si_ext hn fun n h _ => hpz n h
    have hsl : ∀ i, i ≤ 60 → 0 ≤ si (pq c.toInt (tI w) W.toInt) i ∧ si (pq c.toInt (tI w) W.toInt) i ≤ c.toInt := fun i hi => by
      have a := si_nn (f := pq c.toInt (tI w) W.toInt) (n := i) fun k _ => (hpq k).1
      have b := si_mono (f := pq c.toInt (tI w) W.toInt) (i := i) (j := 60) hi fun k _ => (hpq k).1
      omega
    have hdv : ∀ n, ((c.toInt64 * (w n).toInt64) / W.toInt64).toInt32.toInt = pq c.toInt (tI w) W.toInt n := fun n => part32 hcb (hw n).1 hWp (hWi n)
    have hW64 : ¬ W.toInt64 = 0 := fun z => by
      have := congrArg Int64.toInt z
      rw [Int32.toInt_toInt64, show (0 : Int64).toInt = 0 from rfl] at this
      omega
    refine wh2_inv (T := fun o => ∃ τ, o = some τ ∧ FrW 400 σ τ ∧ ∀ n, n < nc m → τ.1 400 0 n = sh c w n) (fun i x τ => x.toInt = c.toInt - si (pq c.toInt (tI w) W.toInt) i ∧ FrW 400 σ τ ∧ ∀ n, n < i → (τ.1 400 0 n).toInt = pq c.toInt (tI w) W.toInt n) (nc m) (by omega) (fun i x τ hi hP => ?_) (fun x τ hP rec => ?_) ⟨by show c.toInt = c.toInt - 0; omega, FrW.refl 400 σ, fun n hn => absurd hn (Nat.not_lt_zero n)⟩
    · obtain ⟨p1, p2, p3⟩ := hP
      have hm' := p2.mod (by decide) hm
      have q1 := hpq i
      have q2 := hsl i (by omega)
      have q3 := hsl (i + 1) (by omega)
      have q4 : si (pq c.toInt (tI w) W.toInt) (i + 1) = si (pq c.toInt (tI w) W.toInt) i + pq c.toInt (tI w) W.toInt i := rfl
      refine ⟨x - ((c.toInt64 * (w i).toInt64) / W.toInt64).toInt32, up τ 400 0 i ((c.toInt64 * (w i).toInt64) / W.toInt64).toInt32, ⟨?_, FrW_up p2, fun n hn' => ?_⟩, fun rec => ?_⟩
      · rw [q4, tsub] <;> rw [p1, hdv i] <;> omega
      · by_cases e : n = i
        · rw [e, up_eq, hdv]
        · rw [up_nl e]; exact p3 n (by omega)
      · simp only [jn]
        rw [if_pos ib_3, cl_3, hm' 3 (by decide), h3, if_neg (by rw [nI_leI (by omega) (by omega)]; omega), if_neg hW0, if_pos (inb_nI (show i < 60 by omega) (by decide)), if_pos hW64, if_pos (inb_nI (show i < 60 by omega) (by decide)), nI_clamp (by omega), up_eq, nI_1, p2.1 384 (by decide), h384 i hi, if_pos (inb_nI (show i < 60 by omega) (by decide))]
    · obtain ⟨p1, p2, p3⟩ := hP
      have hm' := p2.mod (by decide) hm
      rw [if_pos ib_3, cl_3, hm' 3 (by decide), h3, if_pos (by rw [nI_leI (by omega) (by omega)]; omega)]
      clear rec
      obtain ⟨x0, hx0⟩ : ∃ x0, x0 = c.toInt - si (pq c.toInt (tI w) W.toInt) 60 := ⟨_, rfl⟩
      rw [← hsi, ← hx0] at p1
      rw [← hx0] at hL
      have hlv : ∀ i, 0 ≤ lv (tI w) x0 i ∧ lv (tI w) x0 i ≤ 60 := fun i => by
        rw [lv_eq hL.1]
        have := cnz_b (tI w) i
        by_cases d : x0 ≤ cnz (tI w) i
        · rw [if_pos d]; omega
        · rw [if_neg d]; omega
      refine wh2_inv (T := fun o => ∃ τ, o = some τ ∧ FrW 400 σ τ ∧ ∀ n, n < nc m → τ.1 400 0 n = sh c w n) (fun i x υ => x.toInt = lv (tI w) x0 i ∧ FrW 400 σ υ ∧ (∀ n, n < i → (υ.1 400 0 n).toInt = pq c.toInt (tI w) W.toInt n + ex (tI w) x0 n) ∧ ∀ n, i ≤ n → n < nc m → (υ.1 400 0 n).toInt = pq c.toInt (tI w) W.toInt n) (nc m) (by omega) (fun i x υ hi hP => ?_) (fun x υ hP rec => ?_) ⟨p1, p2, fun n hn => absurd hn (Nat.not_lt_zero n), fun n _ hn' => p3 n hn'⟩
      · obtain ⟨u1, u2, u3, u4⟩ := hP
        have hm2 := u2.mod (by decide) hm
        obtain ⟨v, hv⟩ : ∃ v : Int32, v = if x ≤ 0 then 0 else if w i ≤ 0 then 0 else 1 := ⟨_, rfl⟩
        have hvx : v.toInt = ex (tI w) x0 i ∧ lv (tI w) x0 (i + 1) = lv (tI w) x0 i - ex (tI w) x0 i := by
          have e1 : lv (tI w) x0 (i + 1) = if 0 < lv (tI w) x0 i ∧ ¬ tI w i = 0 then lv (tI w) x0 i - 1 else lv (tI w) x0 i := rfl
          have e2 : tI w i = (w i).toInt := rfl
          have hwi := (hw i).1
          rw [e1, hv]
          unfold ex
          by_cases d1 : x ≤ 0
          · rw [if_pos d1]
            rw [tle, u1, z0] at d1
            rw [if_neg (by omega), if_neg (by omega)]
            exact ⟨rfl, by omega⟩
          · rw [if_neg d1]
            rw [tle, u1, z0] at d1
            by_cases d2 : w i ≤ 0
            · rw [if_pos d2]
              rw [tle, z0] at d2
              rw [if_neg (by omega), if_neg (by omega)]
              exact ⟨rfl, by omega⟩
            · rw [if_neg d2]
              rw [tle, z0] at d2
              rw [if_pos (by omega), if_pos (by omega)]
              exact ⟨rfl, rfl⟩
        have hex := ex_b (w := tI w) (x := x0) i
        have hli := hlv i
        refine ⟨x - v, up υ 400 0 i (υ.1 400 0 i + v), ⟨?_, FrW_up u2, fun n hn' => ?_, fun n h1 h2 => ?_⟩, fun rec => ?_⟩
        · rw [hvx.2, tsub] <;> rw [u1, hvx.1] <;> omega
        · by_cases e : n = i
          · have hp := hpq i
            rw [e, up_eq, tadd] <;> rw [u4 i (Nat.le_refl i) hi, hvx.1] <;> omega
          · rw [up_nl e]; exact u3 n (by omega)
        · rw [up_nl (by omega)]; exact u4 n (by omega) h2
        · simp only [jn]
          rw [if_pos ib_3, hm2 3 (by decide), h3, if_neg (by rw [nI_leI (by omega) (by omega)]; omega), if_neg (show ¬ W ≤ 0 by rw [tle, z0]; omega), nI_1, if_pos (inb_nI (show i < 60 by omega) (by decide)), nI_clamp (by omega), u2.1 384 (by decide), h384 i hi, hv]
          by_cases d1 : x ≤ 0
          · rw [if_pos d1, if_pos d1, if_pos (inb_nI (show i < 60 by omega) (by decide))]
          · rw [if_neg d1, if_neg d1]
            by_cases d2 : w i ≤ 0
            · rw [if_pos d2, if_pos d2, if_pos (inb_nI (show i < 60 by omega) (by decide)), if_pos (inb_nI (show i < 60 by omega) (by decide))]
            · rw [if_neg d2, if_neg d2, if_pos (inb_nI (show i < 60 by omega) (by decide)), if_pos (inb_nI (show i < 60 by omega) (by decide)), if_pos (inb_nI (show i < 60 by omega) (by decide))]
      · obtain ⟨u1, u2, u3, u4⟩ := hP
        have hm2 := u2.mod (by decide) hm
        rw [if_pos ib_3, hm2 3 (by decide), h3, if_pos (by rw [nI_leI (by omega) (by omega)]; omega)]
        refine ⟨υ, rfl, u2, fun n hn' => ?_⟩
        have hb := gq_b (c := c.toInt) (w := tI w) (W := W.toInt) (N := 60) (n := n) hWp hcb.1 (fun k => (hw k).1) hW.symm (by omega)
        unfold sh
        rw [if_neg (by omega), teq, ofI (by rw [← hW]; omega) (by rw [← hW]; omega), u3 n hn', ← hW, hx0]
        rfl
