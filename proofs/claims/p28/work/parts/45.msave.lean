/-! the reference: aside, put back, acted, undo, keep, restore, the text -/
theorem cpy {R : Type} {b : (Int32 → Sto → Option R) → Int32 → Sto → Option R} {T : Option R → Prop} (D S d s N : Nat) (hN : N < 100000) (hSD : S ≠ D ∨ d ≤ s) {σ : Sto}
    (hs : ∀ (i : Nat) (τ : Sto), i < N → (∀ f, f ≠ D → τ.1 f = σ.1 f) → ∀ rec : Int32 → Sto → Option R, b rec (nI i) τ = rec (nI (i + 1)) (up τ D 0 (d + i) (τ.1 S 0 (s + i))))
    (he : ∀ τ : Sto, (∀ k, k < N → τ.1 D 0 (d + k) = σ.1 S 0 (s + k)) → (∀ k, (k < d ∨ d + N ≤ k) → τ.1 D 0 k = σ.1 D 0 k) → (∀ f, f ≠ D → τ.1 f = σ.1 f) → τ.2 = σ.2 → ∀ rec : Int32 → Sto → Option R, T (b rec (nI N) τ)) : T (wh1 b FU (0 : Int32) σ) := by
  refine wh1_inv (fun i τ => (∀ k, k < i → τ.1 D 0 (d + k) = σ.1 S 0 (s + k)) ∧ (∀ k, (k < d ∨ d + i ≤ k) → τ.1 D 0 k = σ.1 D 0 k) ∧ (∀ f, f ≠ D → τ.1 f = σ.1 f) ∧ τ.2 = σ.2) N hN (fun i τ hi hP => ?_) (fun τ hP rec => he τ hP.1 hP.2.1 hP.2.2.1 hP.2.2.2 rec) ⟨fun k hk => by omega, fun _ _ => rfl, fun _ _ => rfl, rfl⟩
  obtain ⟨p1, p2, p3, p4⟩ := hP
  refine ⟨up τ D 0 (d + i) (τ.1 S 0 (s + i)), ⟨fun k hk => ?_, fun k hk => ?_, fun f hf => ?_, p4⟩, hs i τ hi p3⟩
  · by_cases e : k = i
    · subst e
      rw [up_eq]
      rcases hSD with h | h
      · rw [p3 S h]
      · by_cases e2 : S = D
        · subst e2; exact p2 _ (by omega)
        · rw [p3 S e2]
    · rw [up_nl (by omega)]
      exact p1 k (by omega)
  · rw [up_nl (by omega)]
    exact p2 k (by omega)
  · rw [up_f hf]
    exact p3 f hf
def RMid (σ : Sto) (Z : Zt) (m : Mt) (o : Int32) : Prop := Mod σ m ∧ RMx σ Z ∧ (∀ k, k < 564 → σ.1 320 0 k = Z.1 k) ∧ σ.1 169 0 0 = o
theorem RMid.out {σ : Sto} {Z : Zt} {o : Int32} (h : RMid σ Z Z.1 o) : RMo σ Z := ⟨h.1, h.2.1⟩
theorem aside_eq {σ : Sto} {Z : Zt} (h : RMo σ Z) : ∃ τ, dc_X10_aside σ = some τ ∧ RMid τ Z Z.1 0 ∧ SameC σ τ := by
  unfold dc_X10_aside lt
  refine cpy (T := fun o => ∃ τ, o = some τ ∧ RMid τ Z Z.1 0 ∧ SameC σ τ) 320 304 0 0 564 (by decide) (Or.inl (by decide)) (fun i τ hi _ rec => ?_) (fun τ h1 _ h3 h4 rec => ?_)
  · rw [if_neg (by rw [show (564 : Int32) = nI 564 from rfl, nI_leI (by omega) (by omega)]; omega), if_pos (inb_nI hi (by decide)), if_pos (inb_nI hi (by decide)), nI_1, nI_clamp (by omega), Nat.zero_add]
  · rw [if_pos (by rw [show (564 : Int32) = nI 564 from rfl, nI_leI (by omega) (by omega)]; omega)]
    refine ⟨τ, rfl, ⟨fun k hk => ?_, ?_, fun k hk => ?_, ?_⟩, ?_, ?_⟩
    · rw [h3 304 (by decide), up_ne (by decide), up_ne (by decide)]; exact h.1 k hk
    · refine h.2.congr fun f hf => ?_
      rw [h3 f (by omega), up_f (by omega), up_f (by omega)]
    · have := h1 k hk
      rw [Nat.zero_add] at this
      rw [this, up_ne (by decide), up_ne (by decide)]
      exact h.1 k hk
    · rw [h3 169 (by decide), up_eq]
    · intro f hf
      have n1 : f ≠ 320 := by rintro rfl; cases hf
      have n2 : f ≠ 169 := by rintro rfl; cases hf
      have n3 : f ≠ 160 := by rintro rfl; cases hf
      rw [h3 f n1, up_f n2, up_f n3]
    · exact h4
theorem putBack_eq {σ : Sto} {Z : Zt} {m : Mt} {o : Int32} (h : RMid σ Z m o) : ∃ τ, dc_X10_putBack σ = some τ ∧ RMo τ Z ∧ SameC σ τ := by
  unfold dc_X10_putBack
  refine cpy (T := fun o => ∃ τ, o = some τ ∧ RMo τ Z ∧ SameC σ τ) 304 320 0 0 564 (by decide) (Or.inl (by decide)) (fun i τ hi _ rec => ?_) (fun τ h1 _ h3 h4 rec => ?_)
  · rw [if_neg (by rw [show (564 : Int32) = nI 564 from rfl, nI_leI (by omega) (by omega)]; omega), if_pos (inb_nI hi (by decide)), if_pos (inb_nI hi (by decide)), nI_1, nI_clamp (by omega), Nat.zero_add]
  · rw [if_pos (by rw [show (564 : Int32) = nI 564 from rfl, nI_leI (by omega) (by omega)]; omega)]
    refine ⟨τ, rfl, ⟨fun k hk => ?_, h.2.1.congr fun f hf => h3 f (by omega)⟩, fun f hf => h3 f (by rintro rfl; cases hf), h4⟩
    have := h1 k hk
    rw [Nat.zero_add] at this
    rw [this]
    exact h.2.2.1 k hk
def pushH (h : Nat × (Nat → Mt)) (m : Mt) : Nat × (Nat → Mt) := if h.1 = 4 then (4, fun s => if s = 3 then m else h.2 (s + 1)) else (h.1 + 1, fun s => if s = h.1 then m else h.2 s)
def pushZ (Z : Zt) (m : Mt) : Zt := (m, pushH Z.2.1 Z.1, Z.2.2)
theorem x564 (a b : Nat) : (564 : Int32) * nI a + nI b = nI (564 * a + b) := by rw [show (564 : Int32) = nI 564 from rfl, nI_mul, nI_add]
/-- the copy behind what is kept -/
theorem acted2 {σ : Sto} {h : Nat} {H : Nat → Mt} {mo m : Mt} {x : Option Mt × (Nat × (Nat → Int32))} {r : Int32} (hh : h < 4) (hm : Mod σ m) (hx : RMx σ (mo, (h, H), x)) (hp : ∀ k, k < 564 → σ.1 320 0 k = mo k) :
    ∃ τ, wh1 (fun (rec3 : Int32 → Sto → Option (Int32 × Sto)) (x5 : Int32) (σ4 : Sto) => (if (564 : Int32) ≤ x5 then some (r, up σ4 166 0 0 ((σ4.1 166 0 0) + (1 : Int32))) else (if inb x5 564 then (if inb (((564 : Int32) * (σ4.1 166 0 0)) + x5) 2256 then rec3 (x5 + 1) (up σ4 352 0 (((564 : Int32) * (σ4.1 166 0 0)) + x5).toNatClampNeg (σ4.1 320 0 x5.toNatClampNeg)) else none) else none))) FU (0 : Int32) σ = some (r, τ) ∧ RMo τ (m, (h + 1, fun s => if s = h then mo else H s), x) ∧ SameC σ τ := by
  obtain ⟨r1, r2, r3⟩ := hx
  refine cpy (T := fun o => ∃ τ, o = some (r, τ) ∧ RMo τ (m, (h + 1, fun s => if s = h then mo else H s), x) ∧ SameC σ τ) 352 320 (564 * h) 0 564 (by decide) (Or.inl (by decide)) (fun i τ hi hf rec => ?_) (fun τ h1 h2 h3 h4 rec => ?_)
  · rw [if_neg (by rw [show (564 : Int32) = nI 564 from rfl, nI_leI (by omega) (by omega)]; omega), if_pos (inb_nI hi (by decide)), hf 166 (by decide), r1.1, x564, if_pos (inb_nI (by show 564 * h + i < 2256; omega) (by decide)), nI_1, nI_clamp (by show 564 * h + i < _; omega), nI_clamp (by omega), Nat.zero_add]
  · rw [if_pos (by rw [show (564 : Int32) = nI 564 from rfl, nI_leI (by omega) (by omega)]; omega)]
    refine ⟨_, rfl, ⟨fun k hk => ?_, ⟨?_, ?_⟩, fun s hs k hk => ?_, ?_⟩, ?_, h4⟩
    · rw [up_ne (by decide), h3 304 (by decide)]; exact hm k hk
    · rw [up_eq, h3 166 (by decide), r1.1]; exact nI_1 h
    · show h + 1 ≤ 4; omega
    · rw [up_ne (by decide)]
      by_cases e : s = h
      · subst e
        rw [h1 k hk, Nat.zero_add, hp k hk]
        exact (congrFun (if_pos rfl) k).symm
      · have hs' : s < h + 1 := hs
        rw [h2 _ (by omega), r2 s (by show s < h; omega) k hk]
        exact (congrFun (if_neg e) k).symm
    · rw [up_f (by decide), up_f (by decide), up_f (by decide), up_f (by decide), h3 164 (by decide), h3 336 (by decide), h3 168 (by decide), h3 368 (by decide)]
      exact r3
    · intro f hf
      rw [up_f (by rintro rfl; cases hf), h3 f (by rintro rfl; cases hf)]
theorem acted_eq {σ : Sto} {Z : Zt} {m : Mt} (r : Int32) (h : RMid σ Z m 0) : ∃ τ, dc_X10_acted r σ = some (r, τ) ∧ RMo τ (pushZ Z m) ∧ SameC σ τ := by
  obtain ⟨mo, ⟨hn, H⟩, x⟩ := Z
  obtain ⟨hm, hx, hp, ho⟩ := h
  unfold dc_X10_acted
  rw [if_pos ho]
  simp only [jn]
  obtain ⟨⟨r1, r1'⟩, r2, r3⟩ := id hx
  have r1 : σ.1 166 0 0 = nI hn := r1
  have r1' : hn ≤ 4 := r1'
  by_cases e4 : hn = 4
  · rw [r1, e4, if_pos (by decide)]
    refine cpy (T := fun o => ∃ τ, o = some (r, τ) ∧ RMo τ (pushZ (mo, (4, H), x) m) ∧ SameC σ τ) 352 352 0 564 1692 (by decide) (Or.inr (by decide)) (fun i τ hi _ rec => ?_) (fun τ h1 _ h3 h4 rec => ?_)
    · rw [if_neg (by rw [show (1692 : Int32) = nI 1692 from rfl, nI_leI (by omega) (by omega)]; omega), nIc i 564 564 rfl, if_pos (inb_nI (show i + 564 < 2256 by omega) (by decide)), if_pos (inb_nI (show i < 2256 by omega) (by decide)), nI_1, nI_clamp (by omega), nI_clamp (by omega), Nat.zero_add, Nat.add_comm i 564]
    · rw [if_pos (by rw [show (1692 : Int32) = nI 1692 from rfl, nI_leI (by omega) (by omega)]; omega), h3 166 (by decide), r1, e4]
      have hx3 : RMx (up τ 166 0 0 (nI 4 - 1)) (mo, (3, fun s => H (s + 1)), x) := by
        refine ⟨⟨by rw [up_eq]; show nI 4 - 1 = nI 3; decide, by show 3 ≤ 4; decide⟩, fun s hs k hk => ?_, ?_⟩
        · have hs' : s < 3 := hs
          have := h1 (564 * s + k) (by omega)
          rw [Nat.zero_add] at this
          rw [up_ne (by decide), this, show 564 + (564 * s + k) = 564 * (s + 1) + k by omega]
          exact r2 (s + 1) (by show s + 1 < hn; omega) k hk
        · rw [up_f (by decide), up_f (by decide), up_f (by decide), up_f (by decide), h3 164 (by decide), h3 336 (by decide), h3 168 (by decide), h3 368 (by decide)]
          exact r3
      obtain ⟨υ, u1, u2, u3⟩ := acted2 (r := r) (m := m) (show 3 < 4 by decide) (fun k hk => by rw [up_ne (by decide), h3 304 (by decide)]; exact hm k hk) hx3 (fun k hk => by rw [up_ne (by decide), h3 320 (by decide)]; exact hp k hk)
      exact ⟨υ, u1, u2, SameC.trans ⟨fun f hf => h3 f (by rintro rfl; cases hf), h4⟩ (SameC.trans (SameC_up rfl) u3)⟩
  · rw [if_neg (by rw [r1, show (4 : Int32) = nI 4 from rfl, nI_eq (by omega) (by omega)]; exact e4)]
    obtain ⟨υ, u1, u2, u3⟩ := acted2 (r := r) (m := m) (show hn < 4 by omega) hm hx hp
    refine ⟨υ, u1, ?_, u3⟩
    have : pushZ (mo, (hn, H), x) m = (m, (hn + 1, fun s => if s = hn then mo else H s), x) := by
      show (m, (if hn = 4 then _ else _), x) = _
      rw [if_neg e4]
    rw [this]
    exact u2
theorem acted_over {σ : Sto} {Z : Zt} {m : Mt} {o : Int32} (r : Int32) (ho : ¬ o = 0) (h : RMid σ Z m o) : ∃ τ, dc_X10_acted r σ = some (-3, τ) ∧ RMo τ Z ∧ SameC σ τ := by
  unfold dc_X10_acted
  rw [if_neg (by rw [h.2.2.2]; exact ho)]
  obtain ⟨τ, h1, h2, h3⟩ := putBack_eq h
  rw [h1]
  exact ⟨τ, rfl, h2, h3⟩

def popZ (Z : Zt) : Zt := (Z.2.1.2 (Z.2.1.1 - 1), (Z.2.1.1 - 1, Z.2.1.2), Z.2.2)
theorem nIp {k : Nat} (h : 0 < k) : nI k - 1 = nI (k - 1) := by
  obtain ⟨j, rfl⟩ : ∃ j, k = j + 1 := ⟨k - 1, by omega⟩
  exact nI_pred j
theorem mundo_eq {σ : Sto} {Z : Zt} (h : RMo σ Z) : ∃ τ, dc_X10_undo σ = some (if Z.2.1.1 = 0 then -5 else nI (Z.2.1.1 - 1), τ) ∧ RMo τ (if Z.2.1.1 = 0 then Z else popZ Z) ∧ SameC σ τ := by
  obtain ⟨hm, ⟨r1, r1'⟩, r2, r3⟩ := h
  unfold dc_X10_undo lt
  by_cases e : Z.2.1.1 = 0
  · rw [if_pos (by rw [up_ne (by decide), r1, e]; rfl), if_pos e, if_pos e]
    exact ⟨_, rfl, ⟨Mod_un hm (by decide), RMx_up ⟨⟨r1, r1'⟩, r2, r3⟩ (by decide)⟩, SameC_up rfl⟩
  · have e0 : ¬ nI Z.2.1.1 = 0 := by rw [show (0 : Int32) = nI 0 from rfl, nI_eq (by omega) (by omega)]; exact e
    rw [if_neg (by rw [up_ne (by decide), r1]; exact e0), if_neg e, if_neg e, up_ne (by decide), r1, nIp (by omega)]
    refine cpy (T := fun o => ∃ τ, o = some (nI (Z.2.1.1 - 1), τ) ∧ RMo τ (popZ Z) ∧ SameC σ τ) 304 352 0 (564 * (Z.2.1.1 - 1)) 564 (by decide) (Or.inl (by decide)) (fun i τ hi hf rec => ?_) (fun τ h1 _ h3 h4 rec => ?_)
    · rw [if_neg (by rw [show (564 : Int32) = nI 564 from rfl, nI_leI (by omega) (by omega)]; omega), hf 166 (by decide), up_eq, x564, if_pos (inb_nI (show 564 * (Z.2.1.1 - 1) + i < 2256 by omega) (by decide)), if_pos (inb_nI hi (by decide)), nI_1, nI_clamp (by omega), nI_clamp (by omega), Nat.zero_add]
    · rw [if_pos (by rw [show (564 : Int32) = nI 564 from rfl, nI_leI (by omega) (by omega)]; omega), h3 166 (by decide), up_eq]
      refine ⟨τ, rfl, ⟨fun k hk => ?_, ⟨?_, ?_⟩, fun s hs k hk => ?_, ?_⟩, ⟨fun f hf => ?_, h4⟩⟩
      · have := h1 k hk
        rw [Nat.zero_add] at this
        rw [this, up_ne (by decide), up_ne (by decide)]
        exact r2 _ (by omega) k hk
      · rw [h3 166 (by decide), up_eq]; rfl
      · show Z.2.1.1 - 1 ≤ 4; omega
      · have hs' : s < Z.2.1.1 - 1 := hs
        rw [h3 352 (by decide), up_ne (by decide), up_ne (by decide)]
        exact r2 s (by omega) k hk
      · rw [h3 164 (by decide), h3 336 (by decide), h3 168 (by decide), h3 368 (by decide), up_f (by decide), up_f (by decide), up_f (by decide), up_f (by decide), up_f (by decide), up_f (by decide), up_f (by decide), up_f (by decide)]
        exact r3
      · rw [h3 f (by rintro rfl; cases hf), up_f (by rintro rfl; cases hf), up_f (by rintro rfl; cases hf)]
theorem mkeep_eq {σ : Sto} {Z : Zt} (h : RMo σ Z) : ∃ τ, dc_X10_keep σ = some (Z.1 3, τ) ∧ RMo τ (Z.1, Z.2.1, some Z.1, Z.2.2.2) ∧ SameC σ τ := by
  obtain ⟨hm, r1, r2, r3, r4, r5, r6⟩ := h
  unfold dc_X10_keep
  refine cpy (T := fun o => ∃ τ, o = some (Z.1 3, τ) ∧ RMo τ (Z.1, Z.2.1, some Z.1, Z.2.2.2) ∧ SameC σ τ) 336 304 0 0 564 (by decide) (Or.inl (by decide)) (fun i τ hi hf rec => ?_) (fun τ h1 _ h3 h4 rec => ?_)
  · rw [if_neg (by rw [show (564 : Int32) = nI 564 from rfl, nI_leI (by omega) (by omega)]; omega), if_pos (inb_nI hi (by decide)), if_pos (inb_nI hi (by decide)), nI_1, nI_clamp (by omega), Nat.zero_add]
  · rw [if_pos (by rw [show (564 : Int32) = nI 564 from rfl, nI_leI (by omega) (by omega)]; omega), if_pos ib_3, cl_3, up_ne (by decide), h3 304 (by decide), up_ne (by decide), hm 3 (by decide)]
    refine ⟨_, rfl, ⟨fun k hk => ?_, ?_, ?_, ?_, ?_, ?_, ?_⟩, ⟨fun f hf => ?_, h4⟩⟩
    · rw [up_ne (by decide), h3 304 (by decide), up_ne (by decide)]; exact hm k hk
    · rw [up_ne (by decide), h3 166 (by decide), up_ne (by decide)]; exact r1
    · rw [up_f (by decide), h3 352 (by decide), up_f (by decide)]; exact r2
    · rw [up_eq]; rfl
    · intro q hq k hk
      cases hq
      have := h1 k hk
      rw [Nat.zero_add] at this
      rw [up_ne (by decide), this, up_ne (by decide)]
      exact hm k hk
    · rw [up_ne (by decide), h3 168 (by decide), up_ne (by decide)]; exact r5
    · rw [up_f (by decide), h3 368 (by decide), up_f (by decide)]; exact r6
    · rw [up_f (by rintro rfl; cases hf), h3 f (by rintro rfl; cases hf), up_f (by rintro rfl; cases hf)]
theorem mrestore_eq {σ : Sto} {Z : Zt} (h : RMo σ Z) : (Z.2.2.1 = none → ∃ τ, dc_X10_restore σ = some (-5, τ) ∧ RMo τ Z ∧ SameC σ τ) ∧ ∀ q, Z.2.2.1 = some q → ∃ τ, dc_X10_restore σ = some (q 3, τ) ∧ RMo τ (pushZ Z q) ∧ SameC σ τ := by
  obtain ⟨σ1, h1, h2, h3⟩ := aside_eq h
  obtain ⟨hm, hx, hp, ho⟩ := id h2
  obtain ⟨r1, r2, r3, r4, r5⟩ := id hx
  unfold dc_X10_restore
  rw [h1, bv_s]
  refine ⟨fun hn => ?_, fun q hq => ?_⟩
  · rw [if_pos (by rw [r3, hn]; rfl)]
    exact ⟨σ1, rfl, h2.out, h3⟩
  · rw [if_neg (by rw [r3, hq]; show ¬ (1 : Int32) = 0; decide)]
    refine cpy (T := fun o => ∃ τ, o = some (q 3, τ) ∧ RMo τ (pushZ Z q) ∧ SameC σ τ) 304 336 0 0 564 (by decide) (Or.inl (by decide)) (fun i τ hi hf rec => ?_) (fun τ g1 _ g3 g4 rec => ?_)
    · rw [if_neg (by rw [show (564 : Int32) = nI 564 from rfl, nI_leI (by omega) (by omega)]; omega), if_pos (inb_nI hi (by decide)), if_pos (inb_nI hi (by decide)), nI_1, nI_clamp (by omega), Nat.zero_add]
    · have hq2 : Mod τ q := fun k hk => by
        have := g1 k hk
        rw [Nat.zero_add] at this
        rw [this]
        exact r4 q hq k hk
      obtain ⟨υ, u1, u2, u3⟩ := acted_eq (Z := Z) (m := q) (q 3) (σ := τ) ⟨hq2, hx.congr fun f hf => g3 f (by omega), fun k hk => by rw [g3 320 (by decide)]; exact hp k hk, by rw [g3 169 (by decide)]; exact ho⟩
      rw [if_pos (by rw [show (564 : Int32) = nI 564 from rfl, nI_leI (by omega) (by omega)]; omega), if_pos ib_3, cl_3, hq2 3 (by decide), u1, bd_s]
      exact ⟨υ, rfl, u2, h3.trans (SameC.trans ⟨fun f hf => g3 f (by rintro rfl; cases hf), g4⟩ u3)⟩
def txZ (Z : Zt) (t : Nat × (Nat → Int32)) : Zt := (Z.1, Z.2.1, Z.2.2.1, t)
theorem mclear_eq {σ : Sto} {Z : Zt} (h : RMo σ Z) : ∃ τ, dc_X10_clearText σ = some (nI Z.2.2.2.1, τ) ∧ RMo τ (txZ Z (0, Z.2.2.2.2)) ∧ SameC σ τ := by
  obtain ⟨hm, r1, r2, r3, r4, r5, r6⟩ := h
  unfold dc_X10_clearText lt
  rw [up_ne (by decide), r5.1]
  refine ⟨_, rfl, ⟨Mod_un (Mod_un hm (by decide)) (by decide), ?_, ?_, ?_, ?_, ⟨?_, ?_⟩, ?_⟩, SameC.trans (SameC_up rfl) (SameC_up rfl)⟩
  · rw [up_ne (by decide), up_ne (by decide)]; exact r1
  · rw [up_f (by decide), up_f (by decide)]; exact r2
  · rw [up_ne (by decide), up_ne (by decide)]; exact r3
  · rw [up_f (by decide), up_f (by decide)]; exact r4
  · rw [up_eq]; rfl
  · show 0 ≤ 60; decide
  · intro i hi
    exact absurd hi (Nat.not_lt_zero i)
theorem mtype_eq {σ : Sto} {Z : Zt} (h : RMo σ Z) (a : Int32) : ∃ τ, dc_X10_type a σ = some (if Z.2.2.2.1 = 60 then -3 else nI (Z.2.2.2.1 + 1), τ) ∧ RMo τ (if Z.2.2.2.1 = 60 then Z else txZ Z (Z.2.2.2.1 + 1, fun i => if i = Z.2.2.2.1 then a else Z.2.2.2.2 i)) ∧ SameC σ τ := by
  obtain ⟨hm, r1, r2, r3, r4, r5, r6⟩ := h
  unfold dc_X10_type lt
  have e60 : (σ.1 168 0 0 = 60) = (Z.2.2.2.1 = 60) := by
    apply propext
    rw [r5.1, show (60 : Int32) = nI 60 from rfl, nI_eq (by omega) (by omega)]
  by_cases e : Z.2.2.2.1 = 60
  · rw [if_pos (by rw [up_ne (by decide), e60]; exact e), if_pos e, if_pos e]
    exact ⟨_, rfl, ⟨Mod_un hm (by decide), RMx_up ⟨r1, r2, r3, r4, r5, r6⟩ (by decide)⟩, SameC_up rfl⟩
  · rw [if_neg (by rw [up_ne (by decide), e60]; exact e), if_neg e, if_neg e]
    simp only [up_ne (show 168 ≠ 160 by decide), up_ne (show 168 ≠ 368 by decide), up_eq, r5.1]
    rw [if_pos (inb_nI (show Z.2.2.2.1 < 60 by omega) (by decide)), nI_clamp (by omega), nI_1]
    refine ⟨_, rfl, ⟨Mod_un (Mod_un (Mod_un hm (by decide)) (by decide)) (by decide), ?_, ?_, ?_, ?_, ⟨?_, ?_⟩, ?_⟩, SameC.trans (SameC_up rfl) (SameC.trans (SameC_up rfl) (SameC_up rfl))⟩
    · rw [up_ne (by decide), up_ne (by decide), up_ne (by decide)]; exact r1
    · rw [up_f (by decide), up_f (by decide), up_f (by decide)]; exact r2
    · rw [up_ne (by decide), up_ne (by decide), up_ne (by decide)]; exact r3
    · rw [up_f (by decide), up_f (by decide), up_f (by decide)]; exact r4
    · rw [up_eq]; rfl
    · show Z.2.2.2.1 + 1 ≤ 60; omega
    · intro i hi
      have hi' : i < Z.2.2.2.1 + 1 := hi
      show _ = if i = Z.2.2.2.1 then a else Z.2.2.2.2 i
      rw [up_ne (by decide)]
      by_cases e2 : i = Z.2.2.2.1
      · rw [if_pos e2, e2, up_eq]
      · rw [if_neg e2, up_nl e2, up_ne (by decide)]
        exact r6 i (by omega)
