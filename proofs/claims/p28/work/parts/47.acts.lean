/-! acts: what is common -/
theorem InvZ.push {K : Int} {Z : Zt} {m : Mt} (h : InvZ K Z) (hm : InvM K m) : InvZ K (pushZ Z m) := by
  obtain ⟨h1, h2, h3⟩ := h
  refine ⟨hm, fun s hs => ?_, h3⟩
  show InvM K ((pushH Z.2.1 Z.1).2 s)
  have hs' : s < (pushH Z.2.1 Z.1).1 := hs
  revert hs'
  unfold pushH
  by_cases e : Z.2.1.1 = 4
  · rw [if_pos e]
    intro hs'
    have hs2 : s < 4 := hs'
    show InvM K (if s = 3 then Z.1 else Z.2.1.2 (s + 1))
    by_cases e2 : s = 3
    · rw [if_pos e2]; exact h1
    · rw [if_neg e2]; exact h2 _ (by omega)
  · rw [if_neg e]
    intro hs'
    have hs2 : s < Z.2.1.1 + 1 := hs'
    show InvM K (if s = Z.2.1.1 then Z.1 else Z.2.1.2 s)
    by_cases e2 : s = Z.2.1.1
    · rw [if_pos e2]; exact h1
    · rw [if_neg e2]; exact h2 _ (by omega)
theorem q_undo {K : Int} {Z : Zt} (hI : InvZ K Z) : Pair K Z dc_X9_undo dc_X10_undo := by
  refine ⟨_, if Z.2.1.1 = 0 then Z else popZ Z, ?_, fun σ h => cundo_eq h, fun σ h => mundo_eq h⟩
  by_cases e : Z.2.1.1 = 0
  · rw [if_pos e]; exact hI
  · rw [if_neg e]
    exact ⟨hI.2.1 _ (by omega), fun s hs => hI.2.1 s (by have hs' : s < Z.2.1.1 - 1 := hs; omega), hI.2.2⟩
theorem q_keep {K : Int} {Z : Zt} (hI : InvZ K Z) : Pair K Z dc_X9_keep dc_X10_keep :=
  ⟨_, (Z.1, Z.2.1, some Z.1, Z.2.2.2), ⟨hI.1, hI.2.1, fun q hq => by cases hq; exact hI.1⟩, fun σ h => ckeep_eq h, fun σ h => mkeep_eq h⟩
theorem q_restore {K : Int} {Z : Zt} (hI : InvZ K Z) : Pair K Z dc_X9_restore dc_X10_restore := by
  cases e : Z.2.2.1 with
  | none => exact ⟨_, Z, hI, fun σ h => (crestore_eq h).1 e, fun σ h => (mrestore_eq h).1 e⟩
  | some q => exact ⟨_, _, hI.push (hI.2.2 q e), fun σ h => (crestore_eq h).2 q e, fun σ h => (mrestore_eq h).2 q e⟩
theorem q_clear {K : Int} {Z : Zt} (hI : InvZ K Z) : Pair K Z dc_X9_clearText dc_X10_clearText := ⟨_, txZ Z (0, Z.2.2.2.2), hI, fun σ h => cclear_eq h, fun σ h => mclear_eq h⟩
theorem q_type {K : Int} {Z : Zt} (hI : InvZ K Z) (a : Int32) (ha : vp_nar .char a = a) : Pair K Z (dc_X9_type a) (dc_X10_type a) := by
  refine ⟨_, if Z.2.2.2.1 = 60 then Z else txZ Z (Z.2.2.2.1 + 1, fun i => if i = Z.2.2.2.1 then a else Z.2.2.2.2 i), ?_, fun σ h => ctype_eq h a ha, fun σ h => mtype_eq h a⟩
  by_cases e : Z.2.2.2.1 = 60
  · rw [if_pos e]; exact hI
  · rw [if_neg e]; exact hI
/-- the class's end of an act: recorded, then the market alone is changed -/
theorem fin_c {σ σ1 τ : Sto} {Z : Zt} {m : Mt} (h0 : ∀ f, isM f = false → f ≠ 33 → σ1.1 f = σ.1 f) (h1 : RCl σ1 (recZ Z)) (h2 : FrJ 0 σ1 τ) (h3 : Cla τ 0 m) : RCl τ (pushZ Z m) ∧ SameM σ τ := by
  obtain ⟨-, r1, r2, r3, r4, r5, r6, r7, r8⟩ := h1
  refine ⟨⟨h3, ?_, fun s hs => ?_, ?_, ?_, ?_, fun q hq => h2.cla (by decide) (r6 q hq), ?_, ?_⟩, (frC h0).trans h2.sameM⟩
  · rw [h2.1 33 rfl]; exact r1
  · rw [h2.2.2]
    have := r3 s (Nat.lt_of_lt_of_le hs r1.2)
    exact h2.cla (by omega) (r2 s hs)
  · rw [h2.2.2]; exact r3
  · rw [h2.2.2]; exact r4
  · rw [h2.1 147 rfl]; exact r5
  · rw [h2.1 17 rfl]; exact r7
  · rw [h2.1 256 rfl]; exact r8
/-- nothing done on both sides -/
theorem Pair.no {K : Int} {Z : Zt} (hI : InvZ K Z) {f9 f10 : Sto → Option (Int32 × Sto)} (r : Int32) (h9 : ∀ σ, RCl σ Z → f9 σ = some (r, σ)) (h10 : ∀ σ, RMo σ Z → ∃ τ, f10 σ = some (r, τ) ∧ RMo τ Z ∧ SameC σ τ) : Pair K Z f9 f10 := ⟨r, Z, hI, fun σ h => ⟨σ, h9 σ h, h, SameM.refl σ⟩, h10⟩
/-- an act done on both sides -/
theorem Pair.act {K : Int} {Z : Zt} (hI : InvZ K Z) {f9 f10 : Sto → Option (Int32 × Sto)} (r : Int32) (m : Mt) (hm : InvM K m)
    (h9 : ∀ σ, RCl σ Z → ∃ σ1 τ, (∀ f, isM f = false → f ≠ 33 → σ1.1 f = σ.1 f) ∧ RCl σ1 (recZ Z) ∧ f9 σ = some (r, τ) ∧ FrJ 0 σ1 τ ∧ Cla τ 0 m)
    (h10 : ∀ σ, RMo σ Z → ∃ τ, f10 σ = some (r, τ) ∧ RMo τ (pushZ Z m) ∧ SameC σ τ) : Pair K Z f9 f10 := by
  refine ⟨r, pushZ Z m, hI.push hm, fun σ h => ?_, h10⟩
  obtain ⟨σ1, τ, a, b, c, d, e⟩ := h9 σ h
  obtain ⟨u, v⟩ := fin_c a b d e
  exact ⟨τ, c, u, v⟩
theorem upd_eq {f : Nat → Int32} {k : Nat} {v : Int32} : upd f k v k = v := if_pos rfl
theorem upd_ne {f : Nat → Int32} {k i : Nat} {v : Int32} (h : i ≠ k) : upd f k v i = f i := if_neg h
/-! the class's numbers, one written -/
theorem Cla_up87 {σ : Sto} {m : Mt} {v : Int32} (h : Cla σ 0 m) : Cla (up σ 87 0 0 v) 0 (upd m 0 v) := by
  obtain ⟨⟨a1, a2, a3, a4, a5, a6, a7⟩, b, c, d⟩ := h
  refine ⟨⟨?_, ?_, ?_, ?_, ?_, ?_, fun s hs => ?_⟩, fun k hk => ?_, fun l hl => ?_, fun n hn => ?_⟩
  · rw [up_eq, upd_eq]
  · rw [up_ne (by omega), upd_ne (by omega)]; exact a2
  · rw [up_ne (by omega), upd_ne (by omega)]; exact a3
  · rw [up_ne (by omega), upd_ne (by omega)]; exact a4
  · rw [up_ne (by omega), upd_ne (by omega)]; exact a5
  · rw [up_ne (by omega), upd_ne (by omega)]; exact a6
  · rw [up_ne (by omega), upd_ne (by omega)]; exact a7 s hs
  · have q := b k hk
    simp (disch := omega) only [up_ne, upd_ne, q, and_self]
  · have q := c l hl
    simp (disch := omega) only [up_ne, upd_ne, q, and_self]
  · have q := d n hn
    simp (disch := omega) only [up_ne, upd_ne, q, and_self]
theorem Cla_up84 {σ : Sto} {m : Mt} {v : Int32} (h : Cla σ 0 m) : Cla (up σ 84 0 0 v) 0 (upd m 1 v) := by
  obtain ⟨⟨a1, a2, a3, a4, a5, a6, a7⟩, b, c, d⟩ := h
  refine ⟨⟨?_, ?_, ?_, ?_, ?_, ?_, fun s hs => ?_⟩, fun k hk => ?_, fun l hl => ?_, fun n hn => ?_⟩
  · rw [up_ne (by omega), upd_ne (by omega)]; exact a1
  · rw [up_eq, upd_eq]
  · rw [up_ne (by omega), upd_ne (by omega)]; exact a3
  · rw [up_ne (by omega), upd_ne (by omega)]; exact a4
  · rw [up_ne (by omega), upd_ne (by omega)]; exact a5
  · rw [up_ne (by omega), upd_ne (by omega)]; exact a6
  · rw [up_ne (by omega), upd_ne (by omega)]; exact a7 s hs
  · have q := b k hk
    simp (disch := omega) only [up_ne, upd_ne, q, and_self]
  · have q := c l hl
    simp (disch := omega) only [up_ne, upd_ne, q, and_self]
  · have q := d n hn
    simp (disch := omega) only [up_ne, upd_ne, q, and_self]
theorem Cla_up85 {σ : Sto} {m : Mt} {v : Int32} (h : Cla σ 0 m) : Cla (up σ 85 0 0 v) 0 (upd m 2 v) := by
  obtain ⟨⟨a1, a2, a3, a4, a5, a6, a7⟩, b, c, d⟩ := h
  refine ⟨⟨?_, ?_, ?_, ?_, ?_, ?_, fun s hs => ?_⟩, fun k hk => ?_, fun l hl => ?_, fun n hn => ?_⟩
  · rw [up_ne (by omega), upd_ne (by omega)]; exact a1
  · rw [up_ne (by omega), upd_ne (by omega)]; exact a2
  · rw [up_eq, upd_eq]
  · rw [up_ne (by omega), upd_ne (by omega)]; exact a4
  · rw [up_ne (by omega), upd_ne (by omega)]; exact a5
  · rw [up_ne (by omega), upd_ne (by omega)]; exact a6
  · rw [up_ne (by omega), upd_ne (by omega)]; exact a7 s hs
  · have q := b k hk
    simp (disch := omega) only [up_ne, upd_ne, q, and_self]
  · have q := c l hl
    simp (disch := omega) only [up_ne, upd_ne, q, and_self]
  · have q := d n hn
    simp (disch := omega) only [up_ne, upd_ne, q, and_self]
theorem Cla_up86 {σ : Sto} {m : Mt} {v : Int32} (h : Cla σ 0 m) : Cla (up σ 86 0 0 v) 0 (upd m 3 v) := by
  obtain ⟨⟨a1, a2, a3, a4, a5, a6, a7⟩, b, c, d⟩ := h
  refine ⟨⟨?_, ?_, ?_, ?_, ?_, ?_, fun s hs => ?_⟩, fun k hk => ?_, fun l hl => ?_, fun n hn => ?_⟩
  · rw [up_ne (by omega), upd_ne (by omega)]; exact a1
  · rw [up_ne (by omega), upd_ne (by omega)]; exact a2
  · rw [up_ne (by omega), upd_ne (by omega)]; exact a3
  · rw [up_eq, upd_eq]
  · rw [up_ne (by omega), upd_ne (by omega)]; exact a5
  · rw [up_ne (by omega), upd_ne (by omega)]; exact a6
  · rw [up_ne (by omega), upd_ne (by omega)]; exact a7 s hs
  · have q := b k hk
    simp (disch := omega) only [up_ne, upd_ne, q, and_self]
  · have q := c l hl
    simp (disch := omega) only [up_ne, upd_ne, q, and_self]
  · have q := d n hn
    simp (disch := omega) only [up_ne, upd_ne, q, and_self]
theorem Cla_up88 {σ : Sto} {m : Mt} {v : Int32} (h : Cla σ 0 m) : Cla (up σ 88 0 0 v) 0 (upd m 4 v) := by
  obtain ⟨⟨a1, a2, a3, a4, a5, a6, a7⟩, b, c, d⟩ := h
  refine ⟨⟨?_, ?_, ?_, ?_, ?_, ?_, fun s hs => ?_⟩, fun k hk => ?_, fun l hl => ?_, fun n hn => ?_⟩
  · rw [up_ne (by omega), upd_ne (by omega)]; exact a1
  · rw [up_ne (by omega), upd_ne (by omega)]; exact a2
  · rw [up_ne (by omega), upd_ne (by omega)]; exact a3
  · rw [up_ne (by omega), upd_ne (by omega)]; exact a4
  · rw [up_eq, upd_eq]
  · rw [up_ne (by omega), upd_ne (by omega)]; exact a6
  · rw [up_ne (by omega), upd_ne (by omega)]; exact a7 s hs
  · have q := b k hk
    simp (disch := omega) only [up_ne, upd_ne, q, and_self]
  · have q := c l hl
    simp (disch := omega) only [up_ne, upd_ne, q, and_self]
  · have q := d n hn
    simp (disch := omega) only [up_ne, upd_ne, q, and_self]
theorem Cla_up89 {σ : Sto} {m : Mt} {v : Int32} (h : Cla σ 0 m) : Cla (up σ 89 0 0 v) 0 (upd m 5 v) := by
  obtain ⟨⟨a1, a2, a3, a4, a5, a6, a7⟩, b, c, d⟩ := h
  refine ⟨⟨?_, ?_, ?_, ?_, ?_, ?_, fun s hs => ?_⟩, fun k hk => ?_, fun l hl => ?_, fun n hn => ?_⟩
  · rw [up_ne (by omega), upd_ne (by omega)]; exact a1
  · rw [up_ne (by omega), upd_ne (by omega)]; exact a2
  · rw [up_ne (by omega), upd_ne (by omega)]; exact a3
  · rw [up_ne (by omega), upd_ne (by omega)]; exact a4
  · rw [up_ne (by omega), upd_ne (by omega)]; exact a5
  · rw [up_eq, upd_eq]
  · rw [up_ne (by omega), upd_ne (by omega)]; exact a7 s hs
  · have q := b k hk
    simp (disch := omega) only [up_ne, upd_ne, q, and_self]
  · have q := c l hl
    simp (disch := omega) only [up_ne, upd_ne, q, and_self]
  · have q := d n hn
    simp (disch := omega) only [up_ne, upd_ne, q, and_self]
theorem Cla_up224 {σ : Sto} {m : Mt} {s0 : Nat} {v : Int32} (hi : s0 < 4) (h : Cla σ 0 m) : Cla (up σ 224 0 s0 v) 0 (upd m (6 + s0) v) := by
  obtain ⟨⟨a1, a2, a3, a4, a5, a6, a7⟩, b, c, d⟩ := h
  refine ⟨⟨?_, ?_, ?_, ?_, ?_, ?_, fun s hs => ?_⟩, fun k hk => ?_, fun l hl => ?_, fun n hn => ?_⟩
  · rw [up_ne (by omega), upd_ne (by omega)]; exact a1
  · rw [up_ne (by omega), upd_ne (by omega)]; exact a2
  · rw [up_ne (by omega), upd_ne (by omega)]; exact a3
  · rw [up_ne (by omega), upd_ne (by omega)]; exact a4
  · rw [up_ne (by omega), upd_ne (by omega)]; exact a5
  · rw [up_ne (by omega), upd_ne (by omega)]; exact a6
  · by_cases e : s = s0
    · subst e; rw [up_eq, upd_eq]
    · rw [up_nl e, upd_ne (by omega)]; exact a7 s hs
  · have q := b k hk
    simp (disch := omega) only [up_ne, upd_ne, q, and_self]
  · have q := c l hl
    simp (disch := omega) only [up_ne, upd_ne, q, and_self]
  · have q := d n hn
    simp (disch := omega) only [up_ne, upd_ne, q, and_self]
theorem Cla_up65 {σ : Sto} {m : Mt} {l0 : Nat} {v : Int32} (hi : l0 < 10) (h : Cla σ 0 m) : Cla (up σ 65 0 l0 v) 0 (upd m (34 + 11 * l0) v) := by
  obtain ⟨⟨a1, a2, a3, a4, a5, a6, a7⟩, b, c, d⟩ := h
  refine ⟨⟨?_, ?_, ?_, ?_, ?_, ?_, fun s hs => ?_⟩, fun k hk => ?_, fun l hl => ?_, fun n hn => ?_⟩
  · rw [up_ne (by omega), upd_ne (by omega)]; exact a1
  · rw [up_ne (by omega), upd_ne (by omega)]; exact a2
  · rw [up_ne (by omega), upd_ne (by omega)]; exact a3
  · rw [up_ne (by omega), upd_ne (by omega)]; exact a4
  · rw [up_ne (by omega), upd_ne (by omega)]; exact a5
  · rw [up_ne (by omega), upd_ne (by omega)]; exact a6
  · rw [up_ne (by omega), upd_ne (by omega)]; exact a7 s hs
  · have q := b k hk
    simp (disch := omega) only [up_ne, upd_ne, q, and_self]
  · have q := c l hl
    by_cases e : l = l0
    · subst e
      simp (disch := omega) only [up_eq, up_ne, up_nl, upd_eq, upd_ne, q, and_self]
    · simp (disch := omega) only [up_ne, up_nl, upd_ne, q, and_self]
  · have q := d n hn
    simp (disch := omega) only [up_ne, upd_ne, q, and_self]
theorem Cla_up66 {σ : Sto} {m : Mt} {l0 : Nat} {v : Int32} (hi : l0 < 10) (h : Cla σ 0 m) : Cla (up σ 66 0 l0 v) 0 (upd m (34 + 11 * l0 + 1) v) := by
  obtain ⟨⟨a1, a2, a3, a4, a5, a6, a7⟩, b, c, d⟩ := h
  refine ⟨⟨?_, ?_, ?_, ?_, ?_, ?_, fun s hs => ?_⟩, fun k hk => ?_, fun l hl => ?_, fun n hn => ?_⟩
  · rw [up_ne (by omega), upd_ne (by omega)]; exact a1
  · rw [up_ne (by omega), upd_ne (by omega)]; exact a2
  · rw [up_ne (by omega), upd_ne (by omega)]; exact a3
  · rw [up_ne (by omega), upd_ne (by omega)]; exact a4
  · rw [up_ne (by omega), upd_ne (by omega)]; exact a5
  · rw [up_ne (by omega), upd_ne (by omega)]; exact a6
  · rw [up_ne (by omega), upd_ne (by omega)]; exact a7 s hs
  · have q := b k hk
    simp (disch := omega) only [up_ne, upd_ne, q, and_self]
  · have q := c l hl
    by_cases e : l = l0
    · subst e
      simp (disch := omega) only [up_eq, up_ne, up_nl, upd_eq, upd_ne, q, and_self]
    · simp (disch := omega) only [up_ne, up_nl, upd_ne, q, and_self]
  · have q := d n hn
    simp (disch := omega) only [up_ne, upd_ne, q, and_self]
theorem Cla_up67 {σ : Sto} {m : Mt} {l0 : Nat} {v : Int32} (hi : l0 < 10) (h : Cla σ 0 m) : Cla (up σ 67 0 l0 v) 0 (upd m (34 + 11 * l0 + 2) v) := by
  obtain ⟨⟨a1, a2, a3, a4, a5, a6, a7⟩, b, c, d⟩ := h
  refine ⟨⟨?_, ?_, ?_, ?_, ?_, ?_, fun s hs => ?_⟩, fun k hk => ?_, fun l hl => ?_, fun n hn => ?_⟩
  · rw [up_ne (by omega), upd_ne (by omega)]; exact a1
  · rw [up_ne (by omega), upd_ne (by omega)]; exact a2
  · rw [up_ne (by omega), upd_ne (by omega)]; exact a3
  · rw [up_ne (by omega), upd_ne (by omega)]; exact a4
  · rw [up_ne (by omega), upd_ne (by omega)]; exact a5
  · rw [up_ne (by omega), upd_ne (by omega)]; exact a6
  · rw [up_ne (by omega), upd_ne (by omega)]; exact a7 s hs
  · have q := b k hk
    simp (disch := omega) only [up_ne, upd_ne, q, and_self]
  · have q := c l hl
    by_cases e : l = l0
    · subst e
      simp (disch := omega) only [up_eq, up_ne, up_nl, upd_eq, upd_ne, q, and_self]
    · simp (disch := omega) only [up_ne, up_nl, upd_ne, q, and_self]
  · have q := d n hn
    simp (disch := omega) only [up_ne, upd_ne, q, and_self]
theorem Cla_up64 {σ : Sto} {m : Mt} {l0 : Nat} {v : Int32} (hi : l0 < 10) (h : Cla σ 0 m) : Cla (up σ 64 0 l0 v) 0 (upd m (34 + 11 * l0 + 3) v) := by
  obtain ⟨⟨a1, a2, a3, a4, a5, a6, a7⟩, b, c, d⟩ := h
  refine ⟨⟨?_, ?_, ?_, ?_, ?_, ?_, fun s hs => ?_⟩, fun k hk => ?_, fun l hl => ?_, fun n hn => ?_⟩
  · rw [up_ne (by omega), upd_ne (by omega)]; exact a1
  · rw [up_ne (by omega), upd_ne (by omega)]; exact a2
  · rw [up_ne (by omega), upd_ne (by omega)]; exact a3
  · rw [up_ne (by omega), upd_ne (by omega)]; exact a4
  · rw [up_ne (by omega), upd_ne (by omega)]; exact a5
  · rw [up_ne (by omega), upd_ne (by omega)]; exact a6
  · rw [up_ne (by omega), upd_ne (by omega)]; exact a7 s hs
  · have q := b k hk
    simp (disch := omega) only [up_ne, upd_ne, q, and_self]
  · have q := c l hl
    by_cases e : l = l0
    · subst e
      simp (disch := omega) only [up_eq, up_ne, up_nl, upd_eq, upd_ne, q, and_self]
    · simp (disch := omega) only [up_ne, up_nl, upd_ne, q, and_self]
  · have q := d n hn
    simp (disch := omega) only [up_ne, upd_ne, q, and_self]
theorem Cla_up68 {σ : Sto} {m : Mt} {l0 : Nat} {v : Int32} (hi : l0 < 10) (h : Cla σ 0 m) : Cla (up σ 68 0 l0 v) 0 (upd m (34 + 11 * l0 + 4) v) := by
  obtain ⟨⟨a1, a2, a3, a4, a5, a6, a7⟩, b, c, d⟩ := h
  refine ⟨⟨?_, ?_, ?_, ?_, ?_, ?_, fun s hs => ?_⟩, fun k hk => ?_, fun l hl => ?_, fun n hn => ?_⟩
  · rw [up_ne (by omega), upd_ne (by omega)]; exact a1
  · rw [up_ne (by omega), upd_ne (by omega)]; exact a2
  · rw [up_ne (by omega), upd_ne (by omega)]; exact a3
  · rw [up_ne (by omega), upd_ne (by omega)]; exact a4
  · rw [up_ne (by omega), upd_ne (by omega)]; exact a5
  · rw [up_ne (by omega), upd_ne (by omega)]; exact a6
  · rw [up_ne (by omega), upd_ne (by omega)]; exact a7 s hs
  · have q := b k hk
    simp (disch := omega) only [up_ne, upd_ne, q, and_self]
  · have q := c l hl
    by_cases e : l = l0
    · subst e
      simp (disch := omega) only [up_eq, up_ne, up_nl, upd_eq, upd_ne, q, and_self]
    · simp (disch := omega) only [up_ne, up_nl, upd_ne, q, and_self]
  · have q := d n hn
    simp (disch := omega) only [up_ne, upd_ne, q, and_self]
theorem Cla_up69 {σ : Sto} {m : Mt} {l0 : Nat} {v : Int32} (hi : l0 < 10) (h : Cla σ 0 m) : Cla (up σ 69 0 l0 v) 0 (upd m (34 + 11 * l0 + 5) v) := by
  obtain ⟨⟨a1, a2, a3, a4, a5, a6, a7⟩, b, c, d⟩ := h
  refine ⟨⟨?_, ?_, ?_, ?_, ?_, ?_, fun s hs => ?_⟩, fun k hk => ?_, fun l hl => ?_, fun n hn => ?_⟩
  · rw [up_ne (by omega), upd_ne (by omega)]; exact a1
  · rw [up_ne (by omega), upd_ne (by omega)]; exact a2
  · rw [up_ne (by omega), upd_ne (by omega)]; exact a3
  · rw [up_ne (by omega), upd_ne (by omega)]; exact a4
  · rw [up_ne (by omega), upd_ne (by omega)]; exact a5
  · rw [up_ne (by omega), upd_ne (by omega)]; exact a6
  · rw [up_ne (by omega), upd_ne (by omega)]; exact a7 s hs
  · have q := b k hk
    simp (disch := omega) only [up_ne, upd_ne, q, and_self]
  · have q := c l hl
    by_cases e : l = l0
    · subst e
      simp (disch := omega) only [up_eq, up_ne, up_nl, upd_eq, upd_ne, q, and_self]
    · simp (disch := omega) only [up_ne, up_nl, upd_ne, q, and_self]
  · have q := d n hn
    simp (disch := omega) only [up_ne, upd_ne, q, and_self]
theorem Cla_up70 {σ : Sto} {m : Mt} {l0 : Nat} {v : Int32} (hi : l0 < 10) (h : Cla σ 0 m) : Cla (up σ 70 0 l0 v) 0 (upd m (34 + 11 * l0 + 6) v) := by
  obtain ⟨⟨a1, a2, a3, a4, a5, a6, a7⟩, b, c, d⟩ := h
  refine ⟨⟨?_, ?_, ?_, ?_, ?_, ?_, fun s hs => ?_⟩, fun k hk => ?_, fun l hl => ?_, fun n hn => ?_⟩
  · rw [up_ne (by omega), upd_ne (by omega)]; exact a1
  · rw [up_ne (by omega), upd_ne (by omega)]; exact a2
  · rw [up_ne (by omega), upd_ne (by omega)]; exact a3
  · rw [up_ne (by omega), upd_ne (by omega)]; exact a4
  · rw [up_ne (by omega), upd_ne (by omega)]; exact a5
  · rw [up_ne (by omega), upd_ne (by omega)]; exact a6
  · rw [up_ne (by omega), upd_ne (by omega)]; exact a7 s hs
  · have q := b k hk
    simp (disch := omega) only [up_ne, upd_ne, q, and_self]
  · have q := c l hl
    by_cases e : l = l0
    · subst e
      simp (disch := omega) only [up_eq, up_ne, up_nl, upd_eq, upd_ne, q, and_self]
    · simp (disch := omega) only [up_ne, up_nl, upd_ne, q, and_self]
  · have q := d n hn
    simp (disch := omega) only [up_ne, upd_ne, q, and_self]
theorem Cla_up71 {σ : Sto} {m : Mt} {l0 : Nat} {v : Int32} (hi : l0 < 10) (h : Cla σ 0 m) : Cla (up σ 71 0 l0 v) 0 (upd m (34 + 11 * l0 + 7) v) := by
  obtain ⟨⟨a1, a2, a3, a4, a5, a6, a7⟩, b, c, d⟩ := h
  refine ⟨⟨?_, ?_, ?_, ?_, ?_, ?_, fun s hs => ?_⟩, fun k hk => ?_, fun l hl => ?_, fun n hn => ?_⟩
  · rw [up_ne (by omega), upd_ne (by omega)]; exact a1
  · rw [up_ne (by omega), upd_ne (by omega)]; exact a2
  · rw [up_ne (by omega), upd_ne (by omega)]; exact a3
  · rw [up_ne (by omega), upd_ne (by omega)]; exact a4
  · rw [up_ne (by omega), upd_ne (by omega)]; exact a5
  · rw [up_ne (by omega), upd_ne (by omega)]; exact a6
  · rw [up_ne (by omega), upd_ne (by omega)]; exact a7 s hs
  · have q := b k hk
    simp (disch := omega) only [up_ne, upd_ne, q, and_self]
  · have q := c l hl
    by_cases e : l = l0
    · subst e
      simp (disch := omega) only [up_eq, up_ne, up_nl, upd_eq, upd_ne, q, and_self]
    · simp (disch := omega) only [up_ne, up_nl, upd_ne, q, and_self]
  · have q := d n hn
    simp (disch := omega) only [up_ne, upd_ne, q, and_self]
theorem Cla_up72 {σ : Sto} {m : Mt} {l0 : Nat} {v : Int32} (hi : l0 < 10) (h : Cla σ 0 m) : Cla (up σ 72 0 l0 v) 0 (upd m (34 + 11 * l0 + 8) v) := by
  obtain ⟨⟨a1, a2, a3, a4, a5, a6, a7⟩, b, c, d⟩ := h
  refine ⟨⟨?_, ?_, ?_, ?_, ?_, ?_, fun s hs => ?_⟩, fun k hk => ?_, fun l hl => ?_, fun n hn => ?_⟩
  · rw [up_ne (by omega), upd_ne (by omega)]; exact a1
  · rw [up_ne (by omega), upd_ne (by omega)]; exact a2
  · rw [up_ne (by omega), upd_ne (by omega)]; exact a3
  · rw [up_ne (by omega), upd_ne (by omega)]; exact a4
  · rw [up_ne (by omega), upd_ne (by omega)]; exact a5
  · rw [up_ne (by omega), upd_ne (by omega)]; exact a6
  · rw [up_ne (by omega), upd_ne (by omega)]; exact a7 s hs
  · have q := b k hk
    simp (disch := omega) only [up_ne, upd_ne, q, and_self]
  · have q := c l hl
    by_cases e : l = l0
    · subst e
      simp (disch := omega) only [up_eq, up_ne, up_nl, upd_eq, upd_ne, q, and_self]
    · simp (disch := omega) only [up_ne, up_nl, upd_ne, q, and_self]
  · have q := d n hn
    simp (disch := omega) only [up_ne, upd_ne, q, and_self]
theorem Cla_up73 {σ : Sto} {m : Mt} {l0 : Nat} {v : Int32} (hi : l0 < 10) (h : Cla σ 0 m) : Cla (up σ 73 0 l0 v) 0 (upd m (34 + 11 * l0 + 9) v) := by
  obtain ⟨⟨a1, a2, a3, a4, a5, a6, a7⟩, b, c, d⟩ := h
  refine ⟨⟨?_, ?_, ?_, ?_, ?_, ?_, fun s hs => ?_⟩, fun k hk => ?_, fun l hl => ?_, fun n hn => ?_⟩
  · rw [up_ne (by omega), upd_ne (by omega)]; exact a1
  · rw [up_ne (by omega), upd_ne (by omega)]; exact a2
  · rw [up_ne (by omega), upd_ne (by omega)]; exact a3
  · rw [up_ne (by omega), upd_ne (by omega)]; exact a4
  · rw [up_ne (by omega), upd_ne (by omega)]; exact a5
  · rw [up_ne (by omega), upd_ne (by omega)]; exact a6
  · rw [up_ne (by omega), upd_ne (by omega)]; exact a7 s hs
  · have q := b k hk
    simp (disch := omega) only [up_ne, upd_ne, q, and_self]
  · have q := c l hl
    by_cases e : l = l0
    · subst e
      simp (disch := omega) only [up_eq, up_ne, up_nl, upd_eq, upd_ne, q, and_self]
    · simp (disch := omega) only [up_ne, up_nl, upd_ne, q, and_self]
  · have q := d n hn
    simp (disch := omega) only [up_ne, upd_ne, q, and_self]
theorem Cla_up74 {σ : Sto} {m : Mt} {l0 : Nat} {v : Int32} (hi : l0 < 10) (h : Cla σ 0 m) : Cla (up σ 74 0 l0 v) 0 (upd m (34 + 11 * l0 + 10) v) := by
  obtain ⟨⟨a1, a2, a3, a4, a5, a6, a7⟩, b, c, d⟩ := h
  refine ⟨⟨?_, ?_, ?_, ?_, ?_, ?_, fun s hs => ?_⟩, fun k hk => ?_, fun l hl => ?_, fun n hn => ?_⟩
  · rw [up_ne (by omega), upd_ne (by omega)]; exact a1
  · rw [up_ne (by omega), upd_ne (by omega)]; exact a2
  · rw [up_ne (by omega), upd_ne (by omega)]; exact a3
  · rw [up_ne (by omega), upd_ne (by omega)]; exact a4
  · rw [up_ne (by omega), upd_ne (by omega)]; exact a5
  · rw [up_ne (by omega), upd_ne (by omega)]; exact a6
  · rw [up_ne (by omega), upd_ne (by omega)]; exact a7 s hs
  · have q := b k hk
    simp (disch := omega) only [up_ne, upd_ne, q, and_self]
  · have q := c l hl
    by_cases e : l = l0
    · subst e
      simp (disch := omega) only [up_eq, up_ne, up_nl, upd_eq, upd_ne, q, and_self]
    · simp (disch := omega) only [up_ne, up_nl, upd_ne, q, and_self]
  · have q := d n hn
    simp (disch := omega) only [up_ne, upd_ne, q, and_self]
theorem Cla_up96 {σ : Sto} {m : Mt} {n0 : Nat} {v : Int32} (hi : n0 < 60) (h : Cla σ 0 m) : Cla (up σ 96 0 n0 v) 0 (upd m (144 + 7 * n0) v) := by
  obtain ⟨⟨a1, a2, a3, a4, a5, a6, a7⟩, b, c, d⟩ := h
  refine ⟨⟨?_, ?_, ?_, ?_, ?_, ?_, fun s hs => ?_⟩, fun k hk => ?_, fun l hl => ?_, fun n hn => ?_⟩
  · rw [up_ne (by omega), upd_ne (by omega)]; exact a1
  · rw [up_ne (by omega), upd_ne (by omega)]; exact a2
  · rw [up_ne (by omega), upd_ne (by omega)]; exact a3
  · rw [up_ne (by omega), upd_ne (by omega)]; exact a4
  · rw [up_ne (by omega), upd_ne (by omega)]; exact a5
  · rw [up_ne (by omega), upd_ne (by omega)]; exact a6
  · rw [up_ne (by omega), upd_ne (by omega)]; exact a7 s hs
  · have q := b k hk
    simp (disch := omega) only [up_ne, upd_ne, q, and_self]
  · have q := c l hl
    simp (disch := omega) only [up_ne, upd_ne, q, and_self]
  · have q := d n hn
    by_cases e : n = n0
    · subst e
      simp (disch := omega) only [up_eq, up_ne, up_nl, upd_eq, upd_ne, q, and_self]
    · simp (disch := omega) only [up_ne, up_nl, upd_ne, q, and_self]
theorem Cla_up97 {σ : Sto} {m : Mt} {n0 : Nat} {v : Int32} (hi : n0 < 60) (h : Cla σ 0 m) : Cla (up σ 97 0 n0 v) 0 (upd m (144 + 7 * n0 + 1) v) := by
  obtain ⟨⟨a1, a2, a3, a4, a5, a6, a7⟩, b, c, d⟩ := h
  refine ⟨⟨?_, ?_, ?_, ?_, ?_, ?_, fun s hs => ?_⟩, fun k hk => ?_, fun l hl => ?_, fun n hn => ?_⟩
  · rw [up_ne (by omega), upd_ne (by omega)]; exact a1
  · rw [up_ne (by omega), upd_ne (by omega)]; exact a2
  · rw [up_ne (by omega), upd_ne (by omega)]; exact a3
  · rw [up_ne (by omega), upd_ne (by omega)]; exact a4
  · rw [up_ne (by omega), upd_ne (by omega)]; exact a5
  · rw [up_ne (by omega), upd_ne (by omega)]; exact a6
  · rw [up_ne (by omega), upd_ne (by omega)]; exact a7 s hs
  · have q := b k hk
    simp (disch := omega) only [up_ne, upd_ne, q, and_self]
  · have q := c l hl
    simp (disch := omega) only [up_ne, upd_ne, q, and_self]
  · have q := d n hn
    by_cases e : n = n0
    · subst e
      simp (disch := omega) only [up_eq, up_ne, up_nl, upd_eq, upd_ne, q, and_self]
    · simp (disch := omega) only [up_ne, up_nl, upd_ne, q, and_self]
theorem Cla_up98 {σ : Sto} {m : Mt} {n0 : Nat} {v : Int32} (hi : n0 < 60) (h : Cla σ 0 m) : Cla (up σ 98 0 n0 v) 0 (upd m (144 + 7 * n0 + 2) v) := by
  obtain ⟨⟨a1, a2, a3, a4, a5, a6, a7⟩, b, c, d⟩ := h
  refine ⟨⟨?_, ?_, ?_, ?_, ?_, ?_, fun s hs => ?_⟩, fun k hk => ?_, fun l hl => ?_, fun n hn => ?_⟩
  · rw [up_ne (by omega), upd_ne (by omega)]; exact a1
  · rw [up_ne (by omega), upd_ne (by omega)]; exact a2
  · rw [up_ne (by omega), upd_ne (by omega)]; exact a3
  · rw [up_ne (by omega), upd_ne (by omega)]; exact a4
  · rw [up_ne (by omega), upd_ne (by omega)]; exact a5
  · rw [up_ne (by omega), upd_ne (by omega)]; exact a6
  · rw [up_ne (by omega), upd_ne (by omega)]; exact a7 s hs
  · have q := b k hk
    simp (disch := omega) only [up_ne, upd_ne, q, and_self]
  · have q := c l hl
    simp (disch := omega) only [up_ne, upd_ne, q, and_self]
  · have q := d n hn
    by_cases e : n = n0
    · subst e
      simp (disch := omega) only [up_eq, up_ne, up_nl, upd_eq, upd_ne, q, and_self]
    · simp (disch := omega) only [up_ne, up_nl, upd_ne, q, and_self]
theorem Cla_up99 {σ : Sto} {m : Mt} {n0 : Nat} {v : Int32} (hi : n0 < 60) (h : Cla σ 0 m) : Cla (up σ 99 0 n0 v) 0 (upd m (144 + 7 * n0 + 3) v) := by
  obtain ⟨⟨a1, a2, a3, a4, a5, a6, a7⟩, b, c, d⟩ := h
  refine ⟨⟨?_, ?_, ?_, ?_, ?_, ?_, fun s hs => ?_⟩, fun k hk => ?_, fun l hl => ?_, fun n hn => ?_⟩
  · rw [up_ne (by omega), upd_ne (by omega)]; exact a1
  · rw [up_ne (by omega), upd_ne (by omega)]; exact a2
  · rw [up_ne (by omega), upd_ne (by omega)]; exact a3
  · rw [up_ne (by omega), upd_ne (by omega)]; exact a4
  · rw [up_ne (by omega), upd_ne (by omega)]; exact a5
  · rw [up_ne (by omega), upd_ne (by omega)]; exact a6
  · rw [up_ne (by omega), upd_ne (by omega)]; exact a7 s hs
  · have q := b k hk
    simp (disch := omega) only [up_ne, upd_ne, q, and_self]
  · have q := c l hl
    simp (disch := omega) only [up_ne, upd_ne, q, and_self]
  · have q := d n hn
    by_cases e : n = n0
    · subst e
      simp (disch := omega) only [up_eq, up_ne, up_nl, upd_eq, upd_ne, q, and_self]
    · simp (disch := omega) only [up_ne, up_nl, upd_ne, q, and_self]
theorem Cla_up100 {σ : Sto} {m : Mt} {n0 : Nat} {v : Int32} (hi : n0 < 60) (h : Cla σ 0 m) : Cla (up σ 100 0 n0 v) 0 (upd m (144 + 7 * n0 + 4) v) := by
  obtain ⟨⟨a1, a2, a3, a4, a5, a6, a7⟩, b, c, d⟩ := h
  refine ⟨⟨?_, ?_, ?_, ?_, ?_, ?_, fun s hs => ?_⟩, fun k hk => ?_, fun l hl => ?_, fun n hn => ?_⟩
  · rw [up_ne (by omega), upd_ne (by omega)]; exact a1
  · rw [up_ne (by omega), upd_ne (by omega)]; exact a2
  · rw [up_ne (by omega), upd_ne (by omega)]; exact a3
  · rw [up_ne (by omega), upd_ne (by omega)]; exact a4
  · rw [up_ne (by omega), upd_ne (by omega)]; exact a5
  · rw [up_ne (by omega), upd_ne (by omega)]; exact a6
  · rw [up_ne (by omega), upd_ne (by omega)]; exact a7 s hs
  · have q := b k hk
    simp (disch := omega) only [up_ne, upd_ne, q, and_self]
  · have q := c l hl
    simp (disch := omega) only [up_ne, upd_ne, q, and_self]
  · have q := d n hn
    by_cases e : n = n0
    · subst e
      simp (disch := omega) only [up_eq, up_ne, up_nl, upd_eq, upd_ne, q, and_self]
    · simp (disch := omega) only [up_ne, up_nl, upd_ne, q, and_self]
theorem Cla_up101 {σ : Sto} {m : Mt} {n0 : Nat} {v : Int32} (hi : n0 < 60) (h : Cla σ 0 m) : Cla (up σ 101 0 n0 v) 0 (upd m (144 + 7 * n0 + 5) v) := by
  obtain ⟨⟨a1, a2, a3, a4, a5, a6, a7⟩, b, c, d⟩ := h
  refine ⟨⟨?_, ?_, ?_, ?_, ?_, ?_, fun s hs => ?_⟩, fun k hk => ?_, fun l hl => ?_, fun n hn => ?_⟩
  · rw [up_ne (by omega), upd_ne (by omega)]; exact a1
  · rw [up_ne (by omega), upd_ne (by omega)]; exact a2
  · rw [up_ne (by omega), upd_ne (by omega)]; exact a3
  · rw [up_ne (by omega), upd_ne (by omega)]; exact a4
  · rw [up_ne (by omega), upd_ne (by omega)]; exact a5
  · rw [up_ne (by omega), upd_ne (by omega)]; exact a6
  · rw [up_ne (by omega), upd_ne (by omega)]; exact a7 s hs
  · have q := b k hk
    simp (disch := omega) only [up_ne, upd_ne, q, and_self]
  · have q := c l hl
    simp (disch := omega) only [up_ne, upd_ne, q, and_self]
  · have q := d n hn
    by_cases e : n = n0
    · subst e
      simp (disch := omega) only [up_eq, up_ne, up_nl, upd_eq, upd_ne, q, and_self]
    · simp (disch := omega) only [up_ne, up_nl, upd_ne, q, and_self]
theorem Cla_up102 {σ : Sto} {m : Mt} {n0 : Nat} {v : Int32} (hi : n0 < 60) (h : Cla σ 0 m) : Cla (up σ 102 0 n0 v) 0 (upd m (144 + 7 * n0 + 6) v) := by
  obtain ⟨⟨a1, a2, a3, a4, a5, a6, a7⟩, b, c, d⟩ := h
  refine ⟨⟨?_, ?_, ?_, ?_, ?_, ?_, fun s hs => ?_⟩, fun k hk => ?_, fun l hl => ?_, fun n hn => ?_⟩
  · rw [up_ne (by omega), upd_ne (by omega)]; exact a1
  · rw [up_ne (by omega), upd_ne (by omega)]; exact a2
  · rw [up_ne (by omega), upd_ne (by omega)]; exact a3
  · rw [up_ne (by omega), upd_ne (by omega)]; exact a4
  · rw [up_ne (by omega), upd_ne (by omega)]; exact a5
  · rw [up_ne (by omega), upd_ne (by omega)]; exact a6
  · rw [up_ne (by omega), upd_ne (by omega)]; exact a7 s hs
  · have q := b k hk
    simp (disch := omega) only [up_ne, upd_ne, q, and_self]
  · have q := c l hl
    simp (disch := omega) only [up_ne, upd_ne, q, and_self]
  · have q := d n hn
    by_cases e : n = n0
    · subst e
      simp (disch := omega) only [up_eq, up_ne, up_nl, upd_eq, upd_ne, q, and_self]
    · simp (disch := omega) only [up_ne, up_nl, upd_ne, q, and_self]
theorem Cla_up48 {σ : Sto} {m : Mt} {i0 : Nat} {v : Int32} (hi : i0 < 8) (h : Cla σ 0 m) : Cla (up σ 48 0 i0 v) 0 (upd m (10 + 3 * i0) v) := by
  obtain ⟨⟨a1, a2, a3, a4, a5, a6, a7⟩, b, c, d⟩ := h
  refine ⟨⟨?_, ?_, ?_, ?_, ?_, ?_, fun s hs => ?_⟩, fun k hk => ?_, fun l hl => ?_, fun n hn => ?_⟩
  · rw [up_ne (by omega), upd_ne (by omega)]; exact a1
  · rw [up_ne (by omega), upd_ne (by omega)]; exact a2
  · rw [up_ne (by omega), upd_ne (by omega)]; exact a3
  · rw [up_ne (by omega), upd_ne (by omega)]; exact a4
  · rw [up_ne (by omega), upd_ne (by omega)]; exact a5
  · rw [up_ne (by omega), upd_ne (by omega)]; exact a6
  · rw [up_ne (by omega), upd_ne (by omega)]; exact a7 s hs
  · have q := b k hk
    by_cases e : k = i0
    · subst e
      simp (disch := omega) only [up_eq, up_ne, up_nl, upd_eq, upd_ne, q, and_self]
    · simp (disch := omega) only [up_ne, up_nl, upd_ne, q, and_self]
  · have q := c l hl
    simp (disch := omega) only [up_ne, upd_ne, q, and_self]
  · have q := d n hn
    simp (disch := omega) only [up_ne, upd_ne, q, and_self]
theorem Cla_up49 {σ : Sto} {m : Mt} {i0 : Nat} {v : Int32} (hi : i0 < 8) (h : Cla σ 0 m) : Cla (up σ 49 0 i0 v) 0 (upd m (10 + 3 * i0 + 1) v) := by
  obtain ⟨⟨a1, a2, a3, a4, a5, a6, a7⟩, b, c, d⟩ := h
  refine ⟨⟨?_, ?_, ?_, ?_, ?_, ?_, fun s hs => ?_⟩, fun k hk => ?_, fun l hl => ?_, fun n hn => ?_⟩
  · rw [up_ne (by omega), upd_ne (by omega)]; exact a1
  · rw [up_ne (by omega), upd_ne (by omega)]; exact a2
  · rw [up_ne (by omega), upd_ne (by omega)]; exact a3
  · rw [up_ne (by omega), upd_ne (by omega)]; exact a4
  · rw [up_ne (by omega), upd_ne (by omega)]; exact a5
  · rw [up_ne (by omega), upd_ne (by omega)]; exact a6
  · rw [up_ne (by omega), upd_ne (by omega)]; exact a7 s hs
  · have q := b k hk
    by_cases e : k = i0
    · subst e
      simp (disch := omega) only [up_eq, up_ne, up_nl, upd_eq, upd_ne, q, and_self]
    · simp (disch := omega) only [up_ne, up_nl, upd_ne, q, and_self]
  · have q := c l hl
    simp (disch := omega) only [up_ne, upd_ne, q, and_self]
  · have q := d n hn
    simp (disch := omega) only [up_ne, upd_ne, q, and_self]
theorem Cla_up50 {σ : Sto} {m : Mt} {i0 : Nat} {v : Int32} (hi : i0 < 8) (h : Cla σ 0 m) : Cla (up σ 50 0 i0 v) 0 (upd m (10 + 3 * i0 + 2) v) := by
  obtain ⟨⟨a1, a2, a3, a4, a5, a6, a7⟩, b, c, d⟩ := h
  refine ⟨⟨?_, ?_, ?_, ?_, ?_, ?_, fun s hs => ?_⟩, fun k hk => ?_, fun l hl => ?_, fun n hn => ?_⟩
  · rw [up_ne (by omega), upd_ne (by omega)]; exact a1
  · rw [up_ne (by omega), upd_ne (by omega)]; exact a2
  · rw [up_ne (by omega), upd_ne (by omega)]; exact a3
  · rw [up_ne (by omega), upd_ne (by omega)]; exact a4
  · rw [up_ne (by omega), upd_ne (by omega)]; exact a5
  · rw [up_ne (by omega), upd_ne (by omega)]; exact a6
  · rw [up_ne (by omega), upd_ne (by omega)]; exact a7 s hs
  · have q := b k hk
    by_cases e : k = i0
    · subst e
      simp (disch := omega) only [up_eq, up_ne, up_nl, upd_eq, upd_ne, q, and_self]
    · simp (disch := omega) only [up_ne, up_nl, upd_ne, q, and_self]
  · have q := c l hl
    simp (disch := omega) only [up_ne, upd_ne, q, and_self]
  · have q := d n hn
    simp (disch := omega) only [up_ne, upd_ne, q, and_self]
