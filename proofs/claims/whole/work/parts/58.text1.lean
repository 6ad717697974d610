/-! the fundings of the text: a reading, and the class's -/
abbrev dg (s : Int32) : Prop := 48 ≤ s.toInt ∧ s.toInt ≤ 57
abbrev alw (s : Int32) (pl : Nat) : Prop := ((pl = 0 ∨ pl = 2) ∧ dg s) ∨ (pl = 1 ∧ s = 62) ∨ (pl = 3 ∧ (s = 115 ∨ s = 106)) ∨ (pl = 4 ∧ dg s ∧ ¬ s = 48) ∨ (5 ≤ pl ∧ (s = 59 ∨ dg s ∧ pl ≤ 8))
abbrev Fds : Type := Nat → Nat → Int32
def fst (F : Fds) (e w : Nat) (v : Int32) : Fds := fun e' w' => if e' = e ∧ w' = w then v else F e' w'
theorem fst_eq {F : Fds} {e w : Nat} {v : Int32} : fst F e w v e w = v := if_pos ⟨rfl, rfl⟩
theorem fst_ne {F : Fds} {e w e' w' : Nat} {v : Int32} (h : ¬ (e' = e ∧ w' = w)) : fst F e w v e' w' = F e' w' := if_neg h
def tk (F : Fds) (e : Nat) (s : Int32) (pl : Nat) : Fds := if pl = 0 then fst F e 0 (s - 48) else if pl = 1 then F else if pl = 2 then fst F e 1 (s - 48) else if pl = 3 then fst F e 2 (if s = 106 then 1 else 0) else if pl = 4 then fst F e 3 (s - 48) else fst F e 3 (F e 3 * 10 + (s - 48))
def rd (t : Nat → Int32) (n : Nat) : Nat → Nat → Nat → Nat → Fds → Int32 × Nat × Fds
  | 0, pl, e, _, F => if 4 < pl then (-1, e + 1, F) else (nI n, e, F)
  | k + 1, pl, e, i, F => if alw (t i) pl then (if t i = 59 then rd t n k 0 (e + 1) (i + 1) F else rd t n k (pl + 1) e (i + 1) (tk F e (t i) pl)) else (nI i, e, F)
theorem jn_dg {α : Type} (s : Int32) (K : Int32 → α) : jn K (fun k2 => if s < 48 then k2 0 else if 57 < s then k2 0 else k2 1) = K (if dg s then 1 else 0) := by
  have d1 : (s < 48) = (s.toInt < 48) := propext (tlt s 48)
  have d2 : (57 < s) = (57 < s.toInt) := propext (tlt 57 s)
  show (if s < 48 then K 0 else if 57 < s then K 0 else K 1) = _
  simp only [d1, d2]
  by_cases c1 : s.toInt < 48
  · rw [if_pos c1, if_neg (fun z => by have := z.1; omega)]
  · rw [if_neg c1]
    by_cases c2 : 57 < s.toInt
    · rw [if_pos c2, if_neg (fun z => by have := z.2; omega)]
    · rw [if_neg c2, if_pos (by constructor <;> omega)]
theorem alw_5 {s : Int32} {pl : Nat} (h5 : 5 ≤ pl) : alw s pl ↔ (s = 59 ∨ dg s ∧ pl ≤ 8) := by
  unfold alw
  constructor
  · rintro (⟨h, -⟩ | ⟨h, -⟩ | ⟨h, -⟩ | ⟨h, -⟩ | ⟨-, h⟩)
    · omega
    · omega
    · omega
    · omega
    · exact h
  · exact fun h => Or.inr (Or.inr (Or.inr (Or.inr ⟨h5, h⟩)))
theorem alw_0 {s : Int32} : alw s 0 ↔ dg s := ⟨by rintro (⟨-, h⟩ | ⟨h, -⟩ | ⟨h, -⟩ | ⟨h, -⟩ | ⟨h, -⟩) <;> first | exact h | omega, fun h => Or.inl ⟨Or.inl rfl, h⟩⟩
theorem alw_2 {s : Int32} : alw s 2 ↔ dg s := ⟨by rintro (⟨-, h⟩ | ⟨h, -⟩ | ⟨h, -⟩ | ⟨h, -⟩ | ⟨h, -⟩) <;> first | exact h | omega, fun h => Or.inl ⟨Or.inr rfl, h⟩⟩
theorem alw_1 {s : Int32} : alw s 1 ↔ s = 62 := ⟨by rintro (⟨h, -⟩ | ⟨-, h⟩ | ⟨h, -⟩ | ⟨h, -⟩ | ⟨h, -⟩) <;> first | exact h | omega, fun h => Or.inr (Or.inl ⟨rfl, h⟩)⟩
theorem alw_3 {s : Int32} : alw s 3 ↔ (s = 115 ∨ s = 106) := ⟨by rintro (⟨h, -⟩ | ⟨h, -⟩ | ⟨-, h⟩ | ⟨h, -⟩ | ⟨h, -⟩) <;> first | exact h | omega, fun h => Or.inr (Or.inr (Or.inl ⟨rfl, h⟩))⟩
theorem alw_4 {s : Int32} : alw s 4 ↔ (dg s ∧ ¬ s = 48) := ⟨by rintro (⟨h, -⟩ | ⟨h, -⟩ | ⟨h, -⟩ | ⟨-, h⟩ | ⟨h, -⟩) <;> first | exact h | omega, fun h => Or.inr (Or.inr (Or.inr (Or.inl ⟨rfl, h⟩)))⟩
theorem if10 {p q : Prop} [Decidable p] [Decidable q] (h : q ↔ p) : (if p then (1 : Int32) else 0) = if q then 1 else 0 := by
  by_cases c : p
  · rw [if_pos c, if_pos (h.mpr c)]
  · rw [if_neg c, if_neg (fun z => c (h.mp z))]
theorem isA_eq {σ : Sto} (s : Int32) {pl : Nat} (hp : pl ≤ 9) : dc_X1_isAllowed s (nI pl) σ = some (if alw s pl then 1 else 0, σ) := by
  have q : ∀ p, p < 2 ^ 31 → (nI pl = nI p) = (pl = p) := fun p h => propext (nI_eq (by omega) h)
  have q0 : (nI pl = 0) = (pl = 0) := q 0 (by decide)
  have q1 : (nI pl = 1) = (pl = 1) := q 1 (by decide)
  have q2 : (nI pl = 2) = (pl = 2) := q 2 (by decide)
  have q3 : (nI pl = 3) = (pl = 3) := q 3 (by decide)
  have q4 : (nI pl = 4) = (pl = 4) := q 4 (by decide)
  have q8 : (8 : Int32) < nI pl ↔ 8 < pl := by
    rw [show (8 : Int32) = nI 8 from rfl, nI_ltI (by omega) (by omega)]
  unfold dc_X1_isAllowed
  rw [jn_dg]
  simp only [q0, q1, q2, q3, q4, b01, if_true]
  rcases (show pl = 0 ∨ pl = 1 ∨ pl = 2 ∨ pl = 3 ∨ pl = 4 ∨ 5 ≤ pl by omega) with rfl | rfl | rfl | rfl | rfl | h5
  · rw [if_pos rfl, if10 alw_0]
  · rw [if_neg (by decide), if_pos rfl, ← if10 alw_1]
    by_cases c : s = 62
    · rw [if_pos c, if_pos c]
    · rw [if_neg c, if_neg c]
  · rw [if_neg (by decide), if_neg (by decide), if_pos rfl, if10 alw_2]
  · rw [if_neg (by decide), if_neg (by decide), if_neg (by decide), if_pos rfl, ← if10 alw_3]
    by_cases c : s = 115
    · rw [if_pos c, if_pos (Or.inl c)]
    · rw [if_neg c]
      by_cases c2 : s = 106
      · rw [if_pos c2, if_pos (Or.inr c2)]
      · rw [if_neg c2, if_neg (fun z => z.elim c c2)]
  · rw [if_neg (by decide), if_neg (by decide), if_neg (by decide), if_neg (by decide), if_pos rfl, ← if10 alw_4]
    by_cases c : dg s
    · rw [if_pos c, if_neg (by decide)]
      by_cases c2 : s = 48
      · rw [if_pos c2, if_neg (fun z => z.2 c2)]
      · rw [if_neg c2, if_pos ⟨c, c2⟩]
    · rw [if_neg c, if_pos rfl, if_neg (fun z => c z.1)]
  · rw [if_neg (by omega), if_neg (by omega), if_neg (by omega), if_neg (by omega), if_neg (by omega), ← if10 (alw_5 h5)]
    by_cases c0 : s = 59
    · rw [if_pos c0, if_pos (Or.inl c0)]
    · rw [if_neg c0]
      by_cases c : dg s
      · rw [if_pos c, if_neg (by decide)]
        by_cases c2 : 8 < pl
        · rw [if_pos (q8.mpr c2), if_neg (fun z => z.elim c0 (fun z => by omega))]
        · rw [if_neg (fun z => c2 (q8.mp z)), if_pos (Or.inr ⟨c, by omega⟩)]
      · rw [if_neg c, if_pos rfl, if_neg (fun z => z.elim c0 (fun z => c z.1))]
/-- the fundings that stand, and what of the next one -/
def FR (σ : Sto) (F : Fds) (e pl : Nat) : Prop := (∀ e', e' < e → σ.1 0 0 e' = F e' 0 ∧ σ.1 1 0 e' = F e' 1 ∧ σ.1 2 0 e' = F e' 2 ∧ σ.1 3 0 e' = F e' 3) ∧ (0 < pl → σ.1 0 0 e = F e 0) ∧ (2 < pl → σ.1 1 0 e = F e 1) ∧ (3 < pl → σ.1 2 0 e = F e 2) ∧ (4 < pl → σ.1 3 0 e = F e 3)
theorem FR.done {σ : Sto} {F : Fds} {e pl : Nat} (h : FR σ F e pl) (hp : 4 < pl) : FR σ F (e + 1) 0 := by
  refine ⟨fun e' he => ?_, fun z => absurd z (by decide), fun z => absurd z (by decide), fun z => absurd z (by decide), fun z => absurd z (by decide)⟩
  by_cases q : e' = e
  · rw [q]; exact ⟨h.2.1 (by omega), h.2.2.1 (by omega), h.2.2.2.1 (by omega), h.2.2.2.2 (by omega)⟩
  · exact h.1 e' (by omega)
theorem take_eq {σ : Sto} {F : Fds} {e pl : Nat} (s : Int32) (hp : pl ≤ 9) (h : FR σ F e pl) : ∃ τ, dc_X1_take e s (nI pl) σ = some τ ∧ FR τ (tk F e s pl) e (pl + 1) ∧ (∀ f, 4 ≤ f → τ.1 f = σ.1 f) ∧ τ.2 = σ.2 := by
  have q : ∀ p, p < 2 ^ 31 → (nI pl = nI p) = (pl = p) := fun p h => propext (nI_eq (by omega) h)
  have q0 : (nI pl = 0) = (pl = 0) := q 0 (by decide)
  have q1 : (nI pl = 1) = (pl = 1) := q 1 (by decide)
  have q2 : (nI pl = 2) = (pl = 2) := q 2 (by decide)
  have q3 : (nI pl = 3) = (pl = 3) := q 3 (by decide)
  have q4 : (nI pl = 4) = (pl = 4) := q 4 (by decide)
  obtain ⟨h1, h2, h3, h4, h5⟩ := h
  have fr : ∀ {w : Nat} {v : Int32}, w < 4 → ∀ f, 4 ≤ f → (up σ w 0 e v).1 f = σ.1 f := fun hw f hf => up_f (by omega)
  have keep : ∀ (w : Nat) (v : Int32), w < 4 → ∀ e', e' < e → (up σ w 0 e v).1 0 0 e' = fst F e w v e' 0 ∧ (up σ w 0 e v).1 1 0 e' = fst F e w v e' 1 ∧ (up σ w 0 e v).1 2 0 e' = fst F e w v e' 2 ∧ (up σ w 0 e v).1 3 0 e' = fst F e w v e' 3 := fun w v hw e' he => by
    rw [up_nl (by omega), up_nl (by omega), up_nl (by omega), up_nl (by omega), fst_ne (by omega), fst_ne (by omega), fst_ne (by omega), fst_ne (by omega)]
    exact h1 e' he
  unfold dc_X1_take tk
  simp only [q0, q1, q2, q3, q4]
  by_cases c0 : pl = 0
  · rw [if_pos c0, if_pos c0]
    refine ⟨_, rfl, ⟨keep 0 _ (by decide), fun _ => by rw [up_eq, fst_eq], fun z => absurd z (by omega), fun z => absurd z (by omega), fun z => absurd z (by omega)⟩, fr (by decide), rfl⟩
  · rw [if_neg c0, if_neg c0]
    have h2 := h2 (by omega)
    by_cases c1 : pl = 1
    · rw [if_pos c1, if_pos c1]
      exact ⟨_, rfl, ⟨h1, fun _ => h2, fun z => absurd z (by omega), fun z => absurd z (by omega), fun z => absurd z (by omega)⟩, fun f _ => rfl, rfl⟩
    · rw [if_neg c1, if_neg c1]
      by_cases c2 : pl = 2
      · rw [if_pos c2, if_pos c2]
        refine ⟨_, rfl, ⟨keep 1 _ (by decide), fun _ => by rw [up_ne (by decide), fst_ne (by omega)]; exact h2, fun _ => by rw [up_eq, fst_eq], fun z => absurd z (by omega), fun z => absurd z (by omega)⟩, fr (by decide), rfl⟩
      · rw [if_neg c2, if_neg c2]
        have h3 := h3 (by omega)
        by_cases c3 : pl = 3
        · rw [if_pos c3, if_pos c3]
          have : (if s = 106 then some (up σ 2 0 e 1) else some (up σ 2 0 e 0)) = some (up σ 2 0 e (if s = 106 then 1 else 0)) := by by_cases c : s = 106 <;> simp only [c, if_true, if_false]
          rw [this]
          refine ⟨_, rfl, ⟨keep 2 _ (by decide), fun _ => by rw [up_ne (by decide), fst_ne (by omega)]; exact h2, fun _ => by rw [up_ne (by decide), fst_ne (by omega)]; exact h3, fun _ => by rw [up_eq, fst_eq], fun z => absurd z (by omega)⟩, fr (by decide), rfl⟩
        · rw [if_neg c3, if_neg c3]
          have h4 := h4 (by omega)
          by_cases c4 : pl = 4
          · rw [if_pos c4, if_pos c4]
            refine ⟨_, rfl, ⟨keep 3 _ (by decide), fun _ => by rw [up_ne (by decide), fst_ne (by omega)]; exact h2, fun _ => by rw [up_ne (by decide), fst_ne (by omega)]; exact h3, fun _ => by rw [up_ne (by decide), fst_ne (by omega)]; exact h4, fun _ => by rw [up_eq, fst_eq]⟩, fr (by decide), rfl⟩
          · rw [if_neg c4, if_neg c4, h5 (by omega)]
            refine ⟨_, rfl, ⟨keep 3 _ (by decide), fun _ => by rw [up_ne (by decide), fst_ne (by omega)]; exact h2, fun _ => by rw [up_ne (by decide), fst_ne (by omega)]; exact h3, fun _ => by rw [up_ne (by decide), fst_ne (by omega)]; exact h4, fun _ => by rw [up_eq, fst_eq]⟩, fr (by decide), rfl⟩
def TxC (σ : Sto) (t : Nat → Int32) (n : Nat) : Prop := σ.1 17 0 0 = nI n ∧ n ≤ 60 ∧ ∀ i, i < n → σ.1 256 0 i = t i
theorem read_c0 {t : Nat → Int32} {n : Nat} : ∀ (k pl e i : Nat) (F : Fds) (σ : Sto) (f : Nat), i + k = n → k < f → 6 * e + pl ≤ i → pl ≤ 9 → FR σ F e pl → TxC σ t n → ∃ τ, wh3 (fun (rec1 : Int32 → Int32 → Int32 → Sto → Option (Int32 × Sto)) (x3 : Int32) (x4 : Int32) (x5 : Int32) (σ2 : Sto) => (if (σ2.1 17 0 0) ≤ x5 then (if (4 : Int32) < x3 then some ((-1 : Int32), up σ2 19 0 0 (x4 + (1 : Int32))) else some (σ2.1 17 0 0, σ2)) else (if (10 : Int32) ≤ x4 then (if (4 : Int32) < x3 then some ((-1 : Int32), up σ2 19 0 0 (x4 + (1 : Int32))) else some (σ2.1 17 0 0, σ2)) else (if inb x5 60 then (bd (dc_X1_isAllowed (σ2.1 256 0 x5.toNatClampNeg) x3 σ2) fun r6 σ7 => (if r6 = 0 then some (x5, σ7) else (if (σ2.1 256 0 x5.toNatClampNeg) = (59 : Int32) then rec1 (0 : Int32) (x4 + 1) (x5 + 1) σ7 else (if inb x4 10 then (bv (dc_X1_take x4.toNatClampNeg (σ2.1 256 0 x5.toNatClampNeg) x3 σ7) fun σ10 => rec1 (x3 + 1) x4 (x5 + 1) σ10) else none)))) else none)))) f (nI pl) (nI e) (nI i) σ = some ((rd t n k pl e i F).1, τ) ∧ (∀ f, 4 ≤ f → f ≠ 19 → τ.1 f = σ.1 f) ∧ τ.2 = σ.2 ∧ ((rd t n k pl e i F).1 = -1 → τ.1 19 0 0 = nI (rd t n k pl e i F).2.1 ∧ (rd t n k pl e i F).2.1 ≤ 10 ∧ FR τ (rd t n k pl e i F).2.2 (rd t n k pl e i F).2.1 0) := by
  intro k
  induction k with
  | zero =>
    intro pl e i F σ f hi hf hI hp hF hT
    obtain ⟨f, rfl⟩ : ∃ z, f = z + 1 := ⟨f - 1, by omega⟩
    have hn := hT.2.1
    unfold wh3 rd
    rw [hT.1, if_pos (by rw [nI_leI (by omega) (by omega)]; omega), show (4 : Int32) = nI 4 from rfl]
    by_cases c : 4 < pl
    · rw [if_pos (by rw [nI_ltI (by omega) (by omega)]; exact c), if_pos c, nI_1]
      refine ⟨_, rfl, fun f hf h19 => up_f h19, rfl, fun _ => ⟨up_eq, by show e + 1 ≤ 10; omega, ?_⟩⟩
      obtain ⟨g1, g2, g3, g4, g5⟩ := hF.done c
      refine ⟨fun e' he => ?_, fun z => absurd z (by decide), fun z => absurd z (by decide), fun z => absurd z (by decide), fun z => absurd z (by decide)⟩
      rw [up_ne (by decide), up_ne (by decide), up_ne (by decide), up_ne (by decide)]
      exact g1 e' he
    · rw [if_neg (by rw [nI_ltI (by omega) (by omega)]; exact c), if_neg c]
      refine ⟨σ, rfl, fun _ _ _ => rfl, rfl, fun z => absurd z ?_⟩
      rw [teq, nI_toInt (by omega), show (-1 : Int32).toInt = -1 from rfl]
      omega
  | succ k ih =>
    intro pl e i F σ f hi hf hI hp hF hT
    obtain ⟨f, rfl⟩ : ∃ z, f = z + 1 := ⟨f - 1, by omega⟩
    have hn := hT.2.1
    unfold wh3 rd
    rw [hT.1, if_neg (by rw [nI_leI (by omega) (by omega)]; omega), show (10 : Int32) = nI 10 from rfl, if_neg (by rw [nI_leI (by omega) (by omega)]; omega), if_pos (inb_nI (show i < 60 by omega) (by decide)), nI_clamp (show i < 2 ^ 31 by omega), hT.2.2 i (by omega), isA_eq (t i) hp, bd_s]
    by_cases c : alw (t i) pl
    · rw [if_pos c, if_neg (by decide), if_pos c, nI_1, nI_1]
      by_cases c2 : t i = 59
      · have h5 : 5 ≤ pl := by
          rcases c with ⟨h, hd⟩ | ⟨h, hd⟩ | ⟨h, hd⟩ | ⟨h, hd, -⟩ | ⟨h, -⟩
          · rw [c2] at hd; exact absurd hd (by decide)
          · rw [c2] at hd; exact absurd hd (by decide)
          · rw [c2] at hd; exact absurd hd (by decide)
          · rw [c2] at hd; exact absurd hd (by decide)
          · exact h
        rw [if_pos c2, if_pos c2]
        exact ih 0 (e + 1) (i + 1) F σ f (by omega) (by omega) (by omega) (by omega) (hF.done (by omega)) hT
      · have h8 : pl ≤ 8 := by
          rcases c with ⟨h, hd⟩ | ⟨h, hd⟩ | ⟨h, hd⟩ | ⟨h, hd, -⟩ | ⟨h, h' | h'⟩
          · omega
          · omega
          · omega
          · omega
          · exact absurd h' c2
          · exact h'.2
        rw [if_neg c2, if_neg c2, if_pos (inb_nI (show e < 10 by omega) (by decide)), nI_clamp (show e < 2 ^ 31 by omega)]
        obtain ⟨τ, t1, t2, t3, t4⟩ := take_eq (t i) hp hF
        rw [t1, bv_s, nI_1]
        obtain ⟨υ, u1, u2, u3, u4⟩ := ih (pl + 1) e (i + 1) (tk F e (t i) pl) τ f (by omega) (by omega) (by omega) (by omega) t2 ⟨by rw [t3 17 (by decide)]; exact hT.1, hn, fun j hj => by rw [t3 256 (by decide)]; exact hT.2.2 j hj⟩
        exact ⟨υ, u1, fun f h4 h19 => (u2 f h4 h19).trans (t3 f h4), u3.trans t4, u4⟩
    · rw [if_neg c, if_pos rfl, if_neg c]
      refine ⟨σ, rfl, fun _ _ _ => rfl, rfl, fun z => absurd z ?_⟩
      rw [teq, nI_toInt (by omega), show (-1 : Int32).toInt = -1 from rfl]
      omega
theorem read_c {t : Nat → Int32} {n : Nat} {σ : Sto} (F : Fds) (hT : TxC σ t n) : ∃ τ, dc_X1_read σ = some ((rd t n n 0 0 0 F).1, τ) ∧ (∀ f, 4 ≤ f → f ≠ 19 → τ.1 f = σ.1 f) ∧ τ.2 = σ.2 ∧ ((rd t n n 0 0 0 F).1 = -1 → τ.1 19 0 0 = nI (rd t n n 0 0 0 F).2.1 ∧ (rd t n n 0 0 0 F).2.1 ≤ 10 ∧ FR τ (rd t n n 0 0 0 F).2.2 (rd t n n 0 0 0 F).2.1 0) :=
  read_c0 n 0 0 0 F σ FU (by omega) (Nat.lt_of_le_of_lt hT.2.1 (by decide)) (by omega) (by omega) ⟨fun e' he => absurd he (Nat.not_lt_zero e'), fun z => absurd z (by decide), fun z => absurd z (by decide), fun z => absurd z (by decide), fun z => absurd z (by decide)⟩ hT
theorem rd_kin {t : Nat → Int32} {n : Nat} : ∀ (k pl e i : Nat) (F : Fds), (∀ e, F e 2 = 0 ∨ F e 2 = 1) → ∀ e', (rd t n k pl e i F).2.2 e' 2 = 0 ∨ (rd t n k pl e i F).2.2 e' 2 = 1 := by
  intro k
  induction k with
  | zero =>
    intro pl e i F hF e'
    unfold rd
    by_cases c : 4 < pl
    · rw [if_pos c]; exact hF e'
    · rw [if_neg c]; exact hF e'
  | succ k ih =>
    intro pl e i F hF
    unfold rd
    by_cases c : alw (t i) pl
    · rw [if_pos c]
      by_cases c2 : t i = 59
      · rw [if_pos c2]; exact ih 0 (e + 1) (i + 1) F hF
      · rw [if_neg c2]
        refine ih (pl + 1) e (i + 1) _ fun e' => ?_
        unfold tk
        by_cases c0 : pl = 0
        · rw [if_pos c0, fst_ne (by omega)]; exact hF e'
        · rw [if_neg c0]
          by_cases c1 : pl = 1
          · rw [if_pos c1]; exact hF e'
          · rw [if_neg c1]
            by_cases c2 : pl = 2
            · rw [if_pos c2, fst_ne (by omega)]; exact hF e'
            · rw [if_neg c2]
              by_cases c3 : pl = 3
              · rw [if_pos c3]
                by_cases ee : e' = e
                · rw [ee, fst_eq]
                  by_cases cj : t i = 106
                  · rw [if_pos cj]; exact Or.inr rfl
                  · rw [if_neg cj]; exact Or.inl rfl
                · rw [fst_ne (by omega)]; exact hF e'
              · rw [if_neg c3]
                by_cases c4 : pl = 4
                · rw [if_pos c4, fst_ne (by omega)]; exact hF e'
                · rw [if_neg c4, fst_ne (by omega)]; exact hF e'
    · rw [if_neg c]; exact hF
