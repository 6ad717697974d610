/-! the class: copies, the history, the snapshot, the text -/
def isM (f : Nat) : Bool := (decide (48 ≤ f) && decide (f < 51)) || (decide (64 ≤ f) && decide (f < 75)) || (decide (84 ≤ f) && decide (f < 90)) || (decide (96 ≤ f) && decide (f < 103)) || decide (f = 224)
def FrJ (d : Nat) (σ τ : Sto) : Prop := (∀ f, isM f = false → τ.1 f = σ.1 f) ∧ (∀ f j, j ≠ d → τ.1 f j = σ.1 f j) ∧ τ.2 = σ.2
theorem FrJ.refl (d : Nat) (σ : Sto) : FrJ d σ σ := ⟨fun _ _ => rfl, fun _ _ _ => rfl, rfl⟩
theorem FrJ.trans {d : Nat} {σ τ υ : Sto} (h : FrJ d σ τ) (h2 : FrJ d τ υ) : FrJ d σ υ := ⟨fun f hf => (h2.1 f hf).trans (h.1 f hf), fun f j hj => (h2.2.1 f j hj).trans (h.2.1 f j hj), h2.2.2.trans h.2.2⟩
theorem up_j {σ : Sto} {f j l f' j' : Nat} {v : Int32} (h : j' ≠ j) : (up σ f j l v).1 f' j' = σ.1 f' j' := funext fun _ => up_nj h
theorem FrJ_up {d : Nat} {σ τ : Sto} {f l : Nat} {v : Int32} (hf : isM f = true) (h : FrJ d σ τ) : FrJ d σ (up τ f d l v) := ⟨fun f' h' => (up_f fun e => by rw [e, hf] at h'; cases h').trans (h.1 f' h'), fun f' j hj => (up_j hj).trans (h.2.1 f' j hj), h.2.2⟩
theorem FrJ.sameM {d : Nat} {σ τ : Sto} (h : FrJ d σ τ) : SameM σ τ := fun f hf => h.1 f (by
  revert hf
  unfold isC isM
  simp only [Bool.or_eq_false_iff, Bool.and_eq_false_iff, decide_eq_false_iff_not]
  omega)
theorem Cla.congrM {σ τ : Sto} {j : Nat} {m : Mt} (h : ∀ f, isM f = true → τ.1 f j = σ.1 f j) (hc : Cla σ j m) : Cla τ j m := by
  simp only [Cla, ClS, ClI, ClL, ClN, h 87 rfl, h 84 rfl, h 85 rfl, h 86 rfl, h 88 rfl, h 89 rfl, h 224 rfl, h 48 rfl, h 49 rfl, h 50 rfl, h 64 rfl, h 65 rfl, h 66 rfl, h 67 rfl, h 68 rfl, h 69 rfl, h 70 rfl, h 71 rfl, h 72 rfl, h 73 rfl, h 74 rfl, h 96 rfl, h 97 rfl, h 98 rfl, h 99 rfl, h 100 rfl, h 101 rfl, h 102 rfl]
  exact hc
theorem Cla.congrJ {σ τ : Sto} {j : Nat} {m : Mt} (h : ∀ f, τ.1 f j = σ.1 f j) (hc : Cla σ j m) : Cla τ j m := hc.congrM fun f _ => h f
theorem Cla_up {σ : Sto} {j : Nat} {m : Mt} {f j' l : Nat} {v : Int32} (hf : isM f = false) (hc : Cla σ j m) : Cla (up σ f j' l v) j m := hc.congrM fun f' h => by rw [up_f fun e => by rw [e, hf] at h; cases h]
theorem FrJ.cla {d j : Nat} {σ τ : Sto} {m : Mt} (h : FrJ d σ τ) (hj : j ≠ d) (hc : Cla σ j m) : Cla τ j m := hc.congrJ fun f => h.2.1 f j hj
theorem x3cp {σ : Sto} {d i s j : Nat} : dc_X3_copyFrom d i s j σ = some (up (up (up σ 48 d i (σ.1 48 s j)) 49 d i (σ.1 49 s j)) 50 d i (σ.1 50 s j)) := by
  unfold dc_X3_copyFrom
  simp (disch := decide) only [lt, up_ne]
theorem x4cp {σ : Sto} {d i s j : Nat} : dc_X4_copyFrom d i s j σ = some (up (up (up (up (up (up (up (up (up (up (up σ 64 d i (σ.1 64 s j)) 65 d i (σ.1 65 s j)) 66 d i (σ.1 66 s j)) 67 d i (σ.1 67 s j)) 68 d i (σ.1 68 s j)) 69 d i (σ.1 69 s j)) 70 d i (σ.1 70 s j)) 71 d i (σ.1 71 s j)) 72 d i (σ.1 72 s j)) 73 d i (σ.1 73 s j)) 74 d i (σ.1 74 s j)) := by
  unfold dc_X4_copyFrom
  simp (disch := decide) only [lt, up_ne]
theorem x6cp {σ : Sto} {d i s j : Nat} : dc_X6_copyFrom d i s j σ = some (up (up (up (up (up (up (up σ 96 d i (σ.1 96 s j)) 97 d i (σ.1 97 s j)) 98 d i (σ.1 98 s j)) 99 d i (σ.1 99 s j)) 100 d i (σ.1 100 s j)) 101 d i (σ.1 101 s j)) 102 d i (σ.1 102 s j)) := by
  unfold dc_X6_copyFrom
  simp (disch := decide) only [lt, up_ne]
def cpI (σ : Sto) (d s n : Nat) (τ : Sto) : Prop := ∀ i, i < n → τ.1 48 d i = σ.1 48 s i ∧ τ.1 49 d i = σ.1 49 s i ∧ τ.1 50 d i = σ.1 50 s i
theorem cpI_up {σ τ : Sto} {d s n f j l : Nat} {v : Int32} (h : cpI σ d s n τ) (hf : 48 ≠ f ∧ 49 ≠ f ∧ 50 ≠ f) : cpI σ d s n (up τ f j l v) := fun i hi => by
  obtain ⟨h48, h49, h50⟩ := hf
  rw [up_ne h48, up_ne h49, up_ne h50]
  exact h i hi
def cpL (σ : Sto) (d s n : Nat) (τ : Sto) : Prop := ∀ i, i < n → τ.1 64 d i = σ.1 64 s i ∧ τ.1 65 d i = σ.1 65 s i ∧ τ.1 66 d i = σ.1 66 s i ∧ τ.1 67 d i = σ.1 67 s i ∧ τ.1 68 d i = σ.1 68 s i ∧ τ.1 69 d i = σ.1 69 s i ∧ τ.1 70 d i = σ.1 70 s i ∧ τ.1 71 d i = σ.1 71 s i ∧ τ.1 72 d i = σ.1 72 s i ∧ τ.1 73 d i = σ.1 73 s i ∧ τ.1 74 d i = σ.1 74 s i
theorem cpL_up {σ τ : Sto} {d s n f j l : Nat} {v : Int32} (h : cpL σ d s n τ) (hf : 64 ≠ f ∧ 65 ≠ f ∧ 66 ≠ f ∧ 67 ≠ f ∧ 68 ≠ f ∧ 69 ≠ f ∧ 70 ≠ f ∧ 71 ≠ f ∧ 72 ≠ f ∧ 73 ≠ f ∧ 74 ≠ f) : cpL σ d s n (up τ f j l v) := fun i hi => by
  obtain ⟨h64, h65, h66, h67, h68, h69, h70, h71, h72, h73, h74⟩ := hf
  rw [up_ne h64, up_ne h65, up_ne h66, up_ne h67, up_ne h68, up_ne h69, up_ne h70, up_ne h71, up_ne h72, up_ne h73, up_ne h74]
  exact h i hi
def cpN (σ : Sto) (d s n : Nat) (τ : Sto) : Prop := ∀ i, i < n → τ.1 96 d i = σ.1 96 s i ∧ τ.1 97 d i = σ.1 97 s i ∧ τ.1 98 d i = σ.1 98 s i ∧ τ.1 99 d i = σ.1 99 s i ∧ τ.1 100 d i = σ.1 100 s i ∧ τ.1 101 d i = σ.1 101 s i ∧ τ.1 102 d i = σ.1 102 s i
theorem cpN_up {σ τ : Sto} {d s n f j l : Nat} {v : Int32} (h : cpN σ d s n τ) (hf : 96 ≠ f ∧ 97 ≠ f ∧ 98 ≠ f ∧ 99 ≠ f ∧ 100 ≠ f ∧ 101 ≠ f ∧ 102 ≠ f) : cpN σ d s n (up τ f j l v) := fun i hi => by
  obtain ⟨h96, h97, h98, h99, h100, h101, h102⟩ := hf
  rw [up_ne h96, up_ne h97, up_ne h98, up_ne h99, up_ne h100, up_ne h101, up_ne h102]
  exact h i hi
def cpE (σ : Sto) (d s n : Nat) (τ : Sto) : Prop := ∀ i, i < n → τ.1 224 d i = σ.1 224 s i
theorem cpE_up {σ τ : Sto} {d s n f j l : Nat} {v : Int32} (h : cpE σ d s n τ) (hf : 224 ≠ f) : cpE σ d s n (up τ f j l v) := fun i hi => by
  have h224 := hf
  rw [up_ne h224]
  exact h i hi
theorem cpI_step {σ τ : Sto} {d s i : Nat} (hds : s ≠ d) (hF : FrJ d σ τ) (h : cpI σ d s i τ) : cpI σ d s (i + 1) (up (up (up τ 48 d i (τ.1 48 s i)) 49 d i (τ.1 49 s i)) 50 d i (τ.1 50 s i)) := fun k hk => by
  by_cases e : k = i
  · subst e
    simp (disch := decide) only [up_ne, up_eq, hF.2.1 _ s hds, and_self]
  · simp (disch := first | decide | exact e) only [up_ne, up_nl]
    exact h k (by omega)
theorem cpI_fr {σ τ : Sto} {d s i : Nat} (hF : FrJ d σ τ) : FrJ d σ (up (up (up τ 48 d i (τ.1 48 s i)) 49 d i (τ.1 49 s i)) 50 d i (τ.1 50 s i)) := by
  exact FrJ_up rfl (FrJ_up rfl (FrJ_up rfl (hF)))
theorem cpL_step {σ τ : Sto} {d s i : Nat} (hds : s ≠ d) (hF : FrJ d σ τ) (h : cpL σ d s i τ) : cpL σ d s (i + 1) (up (up (up (up (up (up (up (up (up (up (up τ 64 d i (τ.1 64 s i)) 65 d i (τ.1 65 s i)) 66 d i (τ.1 66 s i)) 67 d i (τ.1 67 s i)) 68 d i (τ.1 68 s i)) 69 d i (τ.1 69 s i)) 70 d i (τ.1 70 s i)) 71 d i (τ.1 71 s i)) 72 d i (τ.1 72 s i)) 73 d i (τ.1 73 s i)) 74 d i (τ.1 74 s i)) := fun k hk => by
  by_cases e : k = i
  · subst e
    simp (disch := decide) only [up_ne, up_eq, hF.2.1 _ s hds, and_self]
  · simp (disch := first | decide | exact e) only [up_ne, up_nl]
    exact h k (by omega)
theorem cpL_fr {σ τ : Sto} {d s i : Nat} (hF : FrJ d σ τ) : FrJ d σ (up (up (up (up (up (up (up (up (up (up (up τ 64 d i (τ.1 64 s i)) 65 d i (τ.1 65 s i)) 66 d i (τ.1 66 s i)) 67 d i (τ.1 67 s i)) 68 d i (τ.1 68 s i)) 69 d i (τ.1 69 s i)) 70 d i (τ.1 70 s i)) 71 d i (τ.1 71 s i)) 72 d i (τ.1 72 s i)) 73 d i (τ.1 73 s i)) 74 d i (τ.1 74 s i)) := by
  exact FrJ_up rfl (FrJ_up rfl (FrJ_up rfl (FrJ_up rfl (FrJ_up rfl (FrJ_up rfl (FrJ_up rfl (FrJ_up rfl (FrJ_up rfl (FrJ_up rfl (FrJ_up rfl (hF)))))))))))
theorem cpN_step {σ τ : Sto} {d s i : Nat} (hds : s ≠ d) (hF : FrJ d σ τ) (h : cpN σ d s i τ) : cpN σ d s (i + 1) (up (up (up (up (up (up (up τ 96 d i (τ.1 96 s i)) 97 d i (τ.1 97 s i)) 98 d i (τ.1 98 s i)) 99 d i (τ.1 99 s i)) 100 d i (τ.1 100 s i)) 101 d i (τ.1 101 s i)) 102 d i (τ.1 102 s i)) := fun k hk => by
  by_cases e : k = i
  · subst e
    simp (disch := decide) only [up_ne, up_eq, hF.2.1 _ s hds, and_self]
  · simp (disch := first | decide | exact e) only [up_ne, up_nl]
    exact h k (by omega)
theorem cpN_fr {σ τ : Sto} {d s i : Nat} (hF : FrJ d σ τ) : FrJ d σ (up (up (up (up (up (up (up τ 96 d i (τ.1 96 s i)) 97 d i (τ.1 97 s i)) 98 d i (τ.1 98 s i)) 99 d i (τ.1 99 s i)) 100 d i (τ.1 100 s i)) 101 d i (τ.1 101 s i)) 102 d i (τ.1 102 s i)) := by
  exact FrJ_up rfl (FrJ_up rfl (FrJ_up rfl (FrJ_up rfl (FrJ_up rfl (FrJ_up rfl (FrJ_up rfl (hF)))))))
theorem copy_eq {σ : Sto} {d s : Nat} (hds : s ≠ d) : ∃ τ, dc_X5_copyFrom d s σ = some τ ∧ FrJ d σ τ ∧ ∀ m, Cla σ s m → Cla τ d m := by
  unfold dc_X5_copyFrom
  refine wh1_inv (T := fun o => ∃ τ, o = some τ ∧ FrJ d σ τ ∧ ∀ m, Cla σ s m → Cla τ d m) (fun i τ => FrJ d σ τ ∧ cpI σ d s i τ) 8 (by decide) (fun i τ hi hP => ?_) (fun τ hP rec => ?_) ⟨FrJ.refl d σ, fun i hi => absurd hi (Nat.not_lt_zero i)⟩
  · obtain ⟨hF, h1⟩ := hP
    refine ⟨_, ⟨cpI_fr hF, cpI_step hds hF h1⟩, fun rec => ?_⟩
    rw [if_neg (by rw [show (8 : Int32) = nI 8 from rfl, nI_leI (by omega) (by omega)]; omega), if_pos (inb_nI hi (by decide)), if_pos (inb_nI hi (by decide)), nI_1, nI_clamp (by omega), x3cp, bv_s]
  obtain ⟨hF, h1⟩ := hP
  rw [if_pos (by rw [show (8 : Int32) = nI 8 from rfl, nI_leI (by omega) (by omega)]; omega)]
  refine wh1_inv (T := fun o => ∃ τ, o = some τ ∧ FrJ d σ τ ∧ ∀ m, Cla σ s m → Cla τ d m) (fun i τ => FrJ d σ τ ∧ cpI σ d s 8 τ ∧ cpL σ d s i τ) 10 (by decide) (fun i τ hi hP => ?_) (fun τ hP rec => ?_) ⟨hF, h1, fun i hi => absurd hi (Nat.not_lt_zero i)⟩
  · obtain ⟨hF, h1, h2⟩ := hP
    refine ⟨_, ⟨cpL_fr hF, cpI_up (cpI_up (cpI_up (cpI_up (cpI_up (cpI_up (cpI_up (cpI_up (cpI_up (cpI_up (cpI_up (h1) (by decide)) (by decide)) (by decide)) (by decide)) (by decide)) (by decide)) (by decide)) (by decide)) (by decide)) (by decide)) (by decide), cpL_step hds hF h2⟩, fun rec => ?_⟩
    rw [if_neg (by rw [show (10 : Int32) = nI 10 from rfl, nI_leI (by omega) (by omega)]; omega), if_pos (inb_nI hi (by decide)), if_pos (inb_nI hi (by decide)), nI_1, nI_clamp (by omega), x4cp, bv_s]
  clear hF h1
  obtain ⟨hF, h1, h2⟩ := hP
  rw [if_pos (by rw [show (10 : Int32) = nI 10 from rfl, nI_leI (by omega) (by omega)]; omega)]
  refine wh1_inv (T := fun o => ∃ τ, o = some τ ∧ FrJ d σ τ ∧ ∀ m, Cla σ s m → Cla τ d m) (fun i τ => FrJ d σ τ ∧ cpI σ d s 8 τ ∧ cpL σ d s 10 τ ∧ cpN σ d s i τ) 60 (by decide) (fun i τ hi hP => ?_) (fun τ hP rec => ?_) ⟨hF, h1, h2, fun i hi => absurd hi (Nat.not_lt_zero i)⟩
  · obtain ⟨hF, h1, h2, h3⟩ := hP
    refine ⟨_, ⟨cpN_fr hF, cpI_up (cpI_up (cpI_up (cpI_up (cpI_up (cpI_up (cpI_up (h1) (by decide)) (by decide)) (by decide)) (by decide)) (by decide)) (by decide)) (by decide), cpL_up (cpL_up (cpL_up (cpL_up (cpL_up (cpL_up (cpL_up (h2) (by decide)) (by decide)) (by decide)) (by decide)) (by decide)) (by decide)) (by decide), cpN_step hds hF h3⟩, fun rec => ?_⟩
    rw [if_neg (by rw [show (60 : Int32) = nI 60 from rfl, nI_leI (by omega) (by omega)]; omega), if_pos (inb_nI hi (by decide)), if_pos (inb_nI hi (by decide)), nI_1, nI_clamp (by omega), x6cp, bv_s]
  clear hF h1 h2
  obtain ⟨hF, h1, h2, h3⟩ := hP
  rw [if_pos (by rw [show (60 : Int32) = nI 60 from rfl, nI_leI (by omega) (by omega)]; omega)]
  refine wh1_inv (T := fun o => ∃ τ, o = some τ ∧ FrJ d σ τ ∧ ∀ m, Cla σ s m → Cla τ d m) (fun i τ => FrJ d σ τ ∧ cpI σ d s 8 τ ∧ cpL σ d s 10 τ ∧ cpN σ d s 60 τ ∧ cpE σ d s i τ) 4 (by decide) (fun i τ hi hP => ?_) (fun τ hP rec => ?_) ⟨hF, h1, h2, h3, fun i hi => absurd hi (Nat.not_lt_zero i)⟩
  · obtain ⟨hF, h1, h2, h3, h4⟩ := hP
    refine ⟨up τ 224 d i (τ.1 224 s i), ⟨FrJ_up rfl hF, cpI_up h1 (by decide), cpL_up h2 (by decide), cpN_up h3 (by decide), fun k hk => ?_⟩, fun rec => ?_⟩
    · by_cases e : k = i
      · subst e
        rw [up_eq, hF.2.1 _ s hds]
      · rw [up_nl e]
        exact h4 k (by omega)
    · rw [if_neg (by rw [show (4 : Int32) = nI 4 from rfl, nI_leI (by omega) (by omega)]; omega), if_pos (inb_nI hi (by decide)), if_pos (inb_nI hi (by decide)), nI_1, nI_clamp (by omega)]
  clear hF h1 h2 h3
  obtain ⟨hF, h1, h2, h3, h4⟩ := hP
  rw [if_pos (by rw [show (4 : Int32) = nI 4 from rfl, nI_leI (by omega) (by omega)]; omega)]
  refine ⟨_, rfl, FrJ_up rfl (FrJ_up rfl (FrJ_up rfl (FrJ_up rfl (FrJ_up rfl (FrJ_up rfl (hF)))))), fun m hm => ?_⟩
  obtain ⟨⟨a1, a2, a3, a4, a5, a6, a7⟩, b, c, e⟩ := hm
  refine ⟨?_, fun i hi => ?_, fun i hi => ?_, fun i hi => ?_⟩
  · simp (disch := decide) only [ClS, up_ne, up_eq, hF.2.1 _ s hds, a1, a2, a3, a4, a5, a6, true_and]
    intro i hi
    have := h4 i hi
    rw [this]
    exact a7 i hi
  · have q := h1 i hi
    simp (disch := decide) only [up_ne, q]
    exact b i hi
  · have q := h2 i hi
    simp (disch := decide) only [up_ne, q]
    exact c i hi
  · have q := h3 i hi
    simp (disch := decide) only [up_ne, q]
    exact e i hi

/-- the row of states turns: the oldest comes last -/
theorem drop_eq {σ : Sto} : ∃ τ, dc_X2_dropOldest σ = some τ ∧ (∀ f, f ≠ 33 → τ.1 f = σ.1 f) ∧ τ.1 33 0 0 = 3 ∧ (∀ k, k < 3 → τ.2 k = σ.2 (k + 1)) ∧ τ.2 3 = σ.2 0 := by
  unfold dc_X2_dropOldest
  rw [if_pos (by decide)]
  refine wh1_invs (T := fun o => ∃ τ : Sto, o = some τ ∧ (∀ f, f ≠ 33 → τ.1 f = σ.1 f) ∧ τ.1 33 0 0 = 3 ∧ (∀ k, k < 3 → τ.2 k = σ.2 (k + 1)) ∧ τ.2 3 = σ.2 0) (fun i τ => τ.1 = σ.1 ∧ ∀ k, τ.2 k = if k + 1 < i then σ.2 (k + 1) else σ.2 k) 1 4 (by decide) (by decide) (fun i τ h1 hi hP => ?_) (fun τ hP rec => ?_) rfl ⟨rfl, fun k => by rw [if_neg (by omega)]⟩
  · obtain ⟨p1, p2⟩ := hP
    refine ⟨upH τ (i - 1) (τ.2 i), ⟨p1, fun k => ?_⟩, fun rec => ?_⟩
    · show (if k = i - 1 then τ.2 i else τ.2 k) = _
      by_cases e : k = i - 1
      · rw [if_pos e, if_pos (by omega), p2, if_neg (by omega), show k + 1 = i by omega]
      · rw [if_neg e, p2]
        by_cases e2 : k + 1 < i
        · rw [if_pos e2, if_pos (by omega)]
        · rw [if_neg e2, if_neg (by omega)]
    · rw [if_neg (by rw [show (4 : Int32) = nI 4 from rfl, nI_leI (by omega) (by omega)]; omega), if_pos (inb_nI hi (by decide)), nIp (by omega), if_pos (inb_nI (show i - 1 < 4 by omega) (by decide)), nI_1, nI_clamp (by omega), nI_clamp (by omega)]
  · obtain ⟨p1, p2⟩ := hP
    rw [if_pos (by decide), if_pos (by decide)]
    refine ⟨_, rfl, fun f hf => ?_, up_eq, fun k hk => ?_, ?_⟩
    · rw [up_f hf]; show τ.1 f = _; rw [p1]
    · show (if k = ((4 : Int32) - 1).toNatClampNeg then _ else τ.2 k) = _
      rw [if_neg (by rw [show ((4 : Int32) - 1).toNatClampNeg = 3 from by decide]; omega), p2, if_pos (by omega)]
    · show (if 3 = ((4 : Int32) - 1).toNatClampNeg then _ else τ.2 3) = _
      rw [if_pos (by decide)]
      rfl
/-- the market is recorded in the free place -/
theorem rec2 {σ : Sto} {h : Nat} {H : Nat → Mt} {m : Mt} {x : Option Mt × (Nat × (Nat → Int32))} (hh : h < 4) (hr : RCl σ (m, (h, H), x)) :
    ∃ τ, (if inb (σ.1 33 0 0) 4 then (bv (dc_X5_copyFrom (σ.2 (σ.1 33 0 0).toNatClampNeg) 0 σ) fun σ5 => some (up σ5 33 0 0 ((σ5.1 33 0 0) + (1 : Int32)))) else none) = some τ ∧ RCl τ (m, (h + 1, fun s => if s = h then m else H s), x) ∧ (∀ f, isM f = false → f ≠ 33 → τ.1 f = σ.1 f) := by
  obtain ⟨hm, ⟨r1, r1'⟩, r2, r3, r4, r5, r6, r7, r8⟩ := hr
  have r1 : σ.1 33 0 0 = nI h := r1
  have hd := r3 h hh
  obtain ⟨τ, c1, c2, c3⟩ := copy_eq (σ := σ) (d := σ.2 h) (s := 0) (by omega)
  rw [r1, if_pos (inb_nI hh (by decide)), nI_clamp (by omega), c1, bv_s, c2.1 33 rfl, r1, nI_1]
  refine ⟨_, rfl, ⟨Cla_up rfl (c2.cla (by omega) hm), ⟨up_eq, by show h + 1 ≤ 4; omega⟩, fun s hs => Cla_up rfl ?_, ?_, ?_, ?_, fun q hq => Cla_up rfl (c2.cla (by omega) (r6 q hq)), ?_, ?_⟩, fun f h1 h2 => ?_⟩
  · have hs' : s < h + 1 := hs
    rw [show (up τ 33 0 0 (nI (h + 1))).2 = σ.2 from c2.2.2]
    show Cla τ (σ.2 s) (if s = h then m else H s)
    by_cases e : s = h
    · rw [if_pos e, e]; exact c3 m hm
    · rw [if_neg e]
      exact c2.cla (fun q => e (r4 s h (by omega) hh q)) (r2 s (by show s < h; omega))
  · rw [show (up τ 33 0 0 (nI (h + 1))).2 = σ.2 from c2.2.2]; exact r3
  · rw [show (up τ 33 0 0 (nI (h + 1))).2 = σ.2 from c2.2.2]; exact r4
  · rw [up_f (by decide), c2.1 147 rfl]; exact r5
  · rw [up_f (by decide), c2.1 17 rfl]; exact r7
  · rw [up_f (by decide), c2.1 256 rfl]; exact r8
  · rw [up_f h2, c2.1 f h1]
def recZ (Z : Zt) : Zt := (Z.1, pushH Z.2.1 Z.1, Z.2.2)
theorem record_eq {σ : Sto} {Z : Zt} (hr : RCl σ Z) : ∃ τ, dc_X2_record 0 σ = some τ ∧ RCl τ (recZ Z) ∧ (∀ f, isM f = false → f ≠ 33 → τ.1 f = σ.1 f) := by
  obtain ⟨m, ⟨h, H⟩, x⟩ := Z
  have r1 : σ.1 33 0 0 = nI h := hr.2.1.1
  have r1' : h ≤ 4 := hr.2.1.2
  unfold dc_X2_record
  simp only [jn]
  by_cases e : h = 4
  · subst e
    rw [r1, if_neg (by decide)]
    obtain ⟨σ1, d1, d2, d3, d4, d5⟩ := drop_eq (σ := σ)
    rw [d1, bv_s]
    obtain ⟨hm, -, r2, r3, r4, r5, r6, r7, r8⟩ := hr
    have hM : ∀ f, isM f = true → σ1.1 f = σ.1 f := fun f hf => d2 f (by rintro rfl; cases hf)
    have hp : ∀ s, s < 4 → ∃ t, t < 4 ∧ σ1.2 s = σ.2 t ∧ t = (s + 1) % 4 := fun s hs => by
      by_cases e : s = 3
      · subst e; exact ⟨0, by decide, d5, by decide⟩
      · exact ⟨s + 1, by omega, d4 s (by omega), by omega⟩
    have hr1 : RCl σ1 (m, (3, fun s => H (s + 1)), x) := by
      refine ⟨hm.congrM fun f hf => by rw [hM f hf], ⟨d3, by show 3 ≤ 4; decide⟩, fun s hs => ?_, fun s hs => ?_, fun s t hs ht est => ?_, ?_, fun q hq => (r6 q hq).congrM fun f hf => by rw [hM f hf], ?_, ?_⟩
      · have hs' : s < 3 := hs
        rw [d4 s hs']
        exact (r2 (s + 1) (by show s + 1 < 4; omega)).congrM fun f hf => by rw [hM f hf]
      · obtain ⟨t, t1, t2, t3⟩ := hp s hs
        rw [t2]; exact r3 t t1
      · obtain ⟨a, a1, a2, a3⟩ := hp s hs
        obtain ⟨b, b1, b2, b3⟩ := hp t ht
        rw [a2, b2] at est
        have := r4 a b a1 b1 est
        omega
      · rw [d2 147 (by decide)]; exact r5
      · rw [d2 17 (by decide)]; exact r7
      · rw [d2 256 (by decide)]; exact r8
    obtain ⟨τ, t1, t2, t3⟩ := rec2 (show 3 < 4 by decide) hr1
    exact ⟨τ, t1, t2, fun f h1 h2 => (t3 f h1 h2).trans (d2 f h2)⟩
  · rw [if_pos (by rw [r1, show (4 : Int32) = nI 4 from rfl, nI_ltI (by omega) (by omega)]; omega)]
    obtain ⟨τ, t1, t2, t3⟩ := rec2 (show h < 4 by omega) hr
    refine ⟨τ, t1, ?_, t3⟩
    have : recZ (m, (h, H), x) = (m, (h + 1, fun s => if s = h then m else H s), x) := by
      show (m, (if h = 4 then _ else _), x) = _
      rw [if_neg e]
    rw [this]
    exact t2
theorem frC {σ τ : Sto} (h : ∀ f, isM f = false → f ≠ 33 → τ.1 f = σ.1 f) : SameM σ τ := fun f hf => h f (by
  revert hf
  unfold isC isM
  simp only [Bool.or_eq_false_iff, Bool.and_eq_false_iff, decide_eq_false_iff_not]
  omega) (by rintro rfl; cases hf)
theorem cundo_eq {σ : Sto} {Z : Zt} (hr : RCl σ Z) : ∃ τ, dc_X9_undo σ = some (if Z.2.1.1 = 0 then -5 else nI (Z.2.1.1 - 1), τ) ∧ RCl τ (if Z.2.1.1 = 0 then Z else popZ Z) ∧ SameM σ τ := by
  obtain ⟨hm, ⟨r1, r1'⟩, r2, r3, r4, r5, r6, r7, r8⟩ := id hr
  unfold dc_X9_undo
  by_cases e : Z.2.1.1 = 0
  · rw [if_pos (by rw [r1, e]; rfl), if_pos e, if_pos e]
    exact ⟨σ, rfl, hr, SameM.refl σ⟩
  · have e0 : ¬ nI Z.2.1.1 = 0 := by rw [show (0 : Int32) = nI 0 from rfl, nI_eq (by omega) (by omega)]; exact e
    have e1 : ¬ nI Z.2.1.1 ≤ 0 := by rw [show (0 : Int32) = nI 0 from rfl, nI_leI (by omega) (by omega)]; omega
    have hd := r3 (Z.2.1.1 - 1) (by omega)
    obtain ⟨τ, c1, c2, c3⟩ := copy_eq (σ := up σ 33 0 0 (nI (Z.2.1.1 - 1))) (d := 0) (s := σ.2 (Z.2.1.1 - 1)) (by omega)
    unfold dc_X2_takeLatest
    rw [r1, if_neg e0, if_neg e, if_neg e, if_neg e1, nIp (by omega), up_eq, if_pos (inb_nI (show Z.2.1.1 - 1 < 4 by omega) (by decide)), nI_clamp (by omega), show (up σ 33 0 0 (nI (Z.2.1.1 - 1))).2 = σ.2 from rfl, c1, bv_s, bv_s, c2.1 33 rfl, up_eq]
    refine ⟨τ, rfl, ⟨c3 _ (Cla_up rfl (r2 _ (by omega))), ⟨?_, by show Z.2.1.1 - 1 ≤ 4; omega⟩, fun s hs => ?_, ?_, ?_, ?_, fun q hq => c2.cla (by decide) (Cla_up rfl (r6 q hq)), ?_, ?_⟩, SameM.trans ?_ c2.sameM⟩
    · rw [c2.1 33 rfl, up_eq]; rfl
    · have hs' : s < Z.2.1.1 - 1 := hs
      rw [c2.2.2]
      have := r3 s (by omega)
      exact c2.cla (by show σ.2 s ≠ 0; omega) (Cla_up rfl (r2 s (by omega)))
    · rw [c2.2.2]; exact r3
    · rw [c2.2.2]; exact r4
    · rw [c2.1 147 rfl, up_f (by decide)]; exact r5
    · rw [c2.1 17 rfl, up_f (by decide)]; exact r7
    · rw [c2.1 256 rfl, up_f (by decide)]; exact r8
    · exact SameM_up rfl
theorem ckeep_eq {σ : Sto} {Z : Zt} (hr : RCl σ Z) : ∃ τ, dc_X9_keep σ = some (Z.1 3, τ) ∧ RCl τ (Z.1, Z.2.1, some Z.1, Z.2.2.2) ∧ SameM σ τ := by
  obtain ⟨hm, r1, r2, r3, r4, r5, r6, r7, r8⟩ := hr
  obtain ⟨τ, c1, c2, c3⟩ := copy_eq (σ := σ) (d := 2) (s := 0) (by decide)
  have hm2 : Cla τ 0 Z.1 := c2.cla (by decide) hm
  unfold dc_X9_keep
  rw [c1, bv_s, up_ne (by decide), hm2.1.2.2.2.1]
  refine ⟨_, rfl, ⟨Cla_up rfl hm2, ?_, fun s hs => Cla_up rfl ?_, ?_, ?_, ?_, fun q hq => ?_, ?_, ?_⟩, c2.sameM.trans (SameM_up rfl)⟩
  · rw [up_ne (by decide), c2.1 33 rfl]; exact r1
  · rw [show (up τ 147 0 0 1).2 = σ.2 from c2.2.2]
    have := r3 s (Nat.lt_of_lt_of_le hs r1.2)
    exact c2.cla (by omega) (r2 s hs)
  · rw [show (up τ 147 0 0 1).2 = σ.2 from c2.2.2]; exact r3
  · rw [show (up τ 147 0 0 1).2 = σ.2 from c2.2.2]; exact r4
  · rw [up_eq]; rfl
  · cases hq; exact Cla_up rfl (c3 _ hm)
  · rw [up_ne (by decide), c2.1 17 rfl]; exact r7
  · rw [up_f (by decide), c2.1 256 rfl]; exact r8
theorem crestore_eq {σ : Sto} {Z : Zt} (hr : RCl σ Z) : (Z.2.2.1 = none → ∃ τ, dc_X9_restore σ = some (-5, τ) ∧ RCl τ Z ∧ SameM σ τ) ∧ ∀ q, Z.2.2.1 = some q → ∃ τ, dc_X9_restore σ = some (q 3, τ) ∧ RCl τ (pushZ Z q) ∧ SameM σ τ := by
  obtain ⟨hm, r1, r2, r3, r4, r5, r6, r7, r8⟩ := id hr
  unfold dc_X9_restore
  refine ⟨fun hn => ?_, fun q hq => ?_⟩
  · rw [if_pos (by rw [r5, hn]; rfl)]
    exact ⟨σ, rfl, hr, SameM.refl σ⟩
  · rw [if_neg (by rw [r5, hq]; show ¬ (1 : Int32) = 0; decide)]
    obtain ⟨σ1, d1, d2, d3⟩ := record_eq hr
    obtain ⟨-, s1, s2, s3, s4, s5, s6, s7, s8⟩ := d2
    obtain ⟨τ, c1, c2, c3⟩ := copy_eq (σ := σ1) (d := 0) (s := 2) (by decide)
    have hq2 : Cla τ 0 q := c3 q (s6 q hq)
    rw [d1, bv_s, c1, bv_s, hq2.1.2.2.2.1]
    refine ⟨τ, rfl, ⟨hq2, ?_, fun s hs => ?_, ?_, ?_, ?_, fun q hq => c2.cla (by decide) (s6 q hq), ?_, ?_⟩, (frC d3).trans c2.sameM⟩
    · rw [c2.1 33 rfl]; exact s1
    · rw [c2.2.2]
      have := s3 s (Nat.lt_of_lt_of_le hs s1.2)
      exact c2.cla (by omega) (s2 s hs)
    · rw [c2.2.2]; exact s3
    · rw [c2.2.2]; exact s4
    · rw [c2.1 147 rfl]; exact s5
    · rw [c2.1 17 rfl]; exact s7
    · rw [c2.1 256 rfl]; exact s8
theorem cclear_eq {σ : Sto} {Z : Zt} (hr : RCl σ Z) : ∃ τ, dc_X9_clearText σ = some (nI Z.2.2.2.1, τ) ∧ RCl τ (txZ Z (0, Z.2.2.2.2)) ∧ SameM σ τ := by
  obtain ⟨hm, r1, r2, r3, r4, r5, r6, r7, r8⟩ := hr
  unfold dc_X9_clearText
  rw [r7.1]
  refine ⟨_, rfl, ⟨Cla_up rfl hm, ?_, fun s hs => Cla_up rfl (r2 s hs), r3, r4, ?_, fun q hq => Cla_up rfl (r6 q hq), ⟨up_eq, by show 0 ≤ 60; decide⟩, fun i hi => absurd hi (Nat.not_lt_zero i)⟩, SameM_up rfl⟩
  · rw [up_ne (by decide)]; exact r1
  · rw [up_ne (by decide)]; exact r5
theorem ctype_eq {σ : Sto} {Z : Zt} (hr : RCl σ Z) (a : Int32) (ha : vp_nar .char a = a) : ∃ τ, dc_X9_type a σ = some (if Z.2.2.2.1 = 60 then -3 else nI (Z.2.2.2.1 + 1), τ) ∧ RCl τ (if Z.2.2.2.1 = 60 then Z else txZ Z (Z.2.2.2.1 + 1, fun i => if i = Z.2.2.2.1 then a else Z.2.2.2.2 i)) ∧ SameM σ τ := by
  obtain ⟨hm, r1, r2, r3, r4, r5, r6, r7, r8⟩ := id hr
  unfold dc_X9_type lt
  have e60 : (σ.1 17 0 0 < 60) = ¬ (Z.2.2.2.1 = 60) := by
    apply propext
    rw [r7.1, show (60 : Int32) = nI 60 from rfl, nI_ltI (by omega) (by omega)]
    omega
  by_cases e : Z.2.2.2.1 = 60
  · rw [if_neg (by rw [e60]; exact fun q => q e), if_pos e, if_pos e]
    exact ⟨σ, rfl, hr, SameM.refl σ⟩
  · rw [if_pos (by rw [e60]; exact e), if_neg e, if_neg e]
    simp only [up_ne (show 17 ≠ 256 by decide), up_eq, r7.1]
    rw [if_pos (inb_nI (show Z.2.2.2.1 < 60 by omega) (by decide)), nI_clamp (by omega), nI_1]
    refine ⟨_, rfl, ⟨Cla_up rfl (Cla_up rfl hm), ?_, fun s hs => Cla_up rfl (Cla_up rfl (r2 s hs)), r3, r4, ?_, fun q hq => Cla_up rfl (Cla_up rfl (r6 q hq)), ⟨?_, ?_⟩, ?_⟩, SameM.trans (SameM_up rfl) (SameM_up rfl)⟩
    · rw [up_ne (by decide), up_ne (by decide)]; exact r1
    · rw [up_ne (by decide), up_ne (by decide)]; exact r5
    · rw [up_eq]; rfl
    · show Z.2.2.2.1 + 1 ≤ 60; omega
    · intro i hi
      have hi' : i < Z.2.2.2.1 + 1 := hi
      show _ = if i = Z.2.2.2.1 then a else Z.2.2.2.2 i
      rw [up_ne (by decide)]
      by_cases e2 : i = Z.2.2.2.1
      · rw [if_pos e2, e2, up_eq, ha]
      · rw [if_neg e2, up_nl e2]
        exact r8 i (by omega)

