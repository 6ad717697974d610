/-! what class and reference hold together: the market, the history, the snapshot, the text -/
abbrev Zt : Type := Mt × (Nat × (Nat → Mt)) × Option Mt × (Nat × (Nat → Int32))
def RMx (σ : Sto) (Z : Zt) : Prop := (σ.1 166 0 0 = nI Z.2.1.1 ∧ Z.2.1.1 ≤ 4) ∧ (∀ s, s < Z.2.1.1 → ∀ k, k < 564 → σ.1 352 0 (564 * s + k) = Z.2.1.2 s k) ∧ (σ.1 164 0 0 = if Z.2.2.1.isSome then 1 else 0) ∧ (∀ q, Z.2.2.1 = some q → ∀ k, k < 564 → σ.1 336 0 k = q k) ∧ (σ.1 168 0 0 = nI Z.2.2.2.1 ∧ Z.2.2.2.1 ≤ 60) ∧ ∀ i, i < Z.2.2.2.1 → σ.1 368 0 i = Z.2.2.2.2 i
def RMo (σ : Sto) (Z : Zt) : Prop := Mod σ Z.1 ∧ RMx σ Z
def RCx (σ : Sto) (Z : Zt) : Prop := (σ.1 33 0 0 = nI Z.2.1.1 ∧ Z.2.1.1 ≤ 4) ∧ (∀ s, s < Z.2.1.1 → Cla σ (σ.2 s) (Z.2.1.2 s)) ∧ (∀ s, s < 4 → 3 ≤ σ.2 s ∧ σ.2 s < 7) ∧ (∀ s t, s < 4 → t < 4 → σ.2 s = σ.2 t → s = t) ∧ (σ.1 147 0 0 = if Z.2.2.1.isSome then 1 else 0) ∧ (∀ q, Z.2.2.1 = some q → Cla σ 2 q) ∧ (σ.1 17 0 0 = nI Z.2.2.2.1 ∧ Z.2.2.2.1 ≤ 60) ∧ ∀ i, i < Z.2.2.2.1 → σ.1 256 0 i = Z.2.2.2.2 i
def RCl (σ : Sto) (Z : Zt) : Prop := Cla σ 0 Z.1 ∧ RCx σ Z
def isC (f : Nat) : Bool := decide (f < 160) || (decide (176 ≤ f) && decide (f < 304))
def SameC (σ τ : Sto) : Prop := (∀ f, isC f = true → τ.1 f = σ.1 f) ∧ τ.2 = σ.2
def SameM (σ τ : Sto) : Prop := ∀ f, isC f = false → τ.1 f = σ.1 f
theorem SameC.refl (σ : Sto) : SameC σ σ := ⟨fun _ _ => rfl, rfl⟩
theorem SameM.refl (σ : Sto) : SameM σ σ := fun _ _ => rfl
theorem SameC.trans {σ τ υ : Sto} (h : SameC σ τ) (h2 : SameC τ υ) : SameC σ υ := ⟨fun f hf => (h2.1 f hf).trans (h.1 f hf), h2.2.trans h.2⟩
theorem SameM.trans {σ τ υ : Sto} (h : SameM σ τ) (h2 : SameM τ υ) : SameM σ υ := fun f hf => (h2 f hf).trans (h f hf)
theorem up_f {σ : Sto} {f j l f' : Nat} {v : Int32} (h : f' ≠ f) : (up σ f j l v).1 f' = σ.1 f' := funext fun _ => funext fun _ => up_ne h
theorem SameC_up {σ : Sto} {f j l : Nat} {v : Int32} (h : isC f = false) : SameC σ (up σ f j l v) := ⟨fun f' hf => up_f (fun e => by rw [e, h] at hf; cases hf), rfl⟩
theorem SameM_up {σ : Sto} {f j l : Nat} {v : Int32} (h : isC f = true) : SameM σ (up σ f j l v) := fun f' hf => up_f fun e => by rw [e, h] at hf; cases hf
theorem Cla.congr {σ τ : Sto} {j : Nat} {m : Mt} (h : ∀ f, isC f = true → τ.1 f = σ.1 f) (hc : Cla σ j m) : Cla τ j m := by
  simp only [Cla, ClS, ClI, ClL, ClN, h 87 rfl, h 84 rfl, h 85 rfl, h 86 rfl, h 88 rfl, h 89 rfl, h 224 rfl, h 48 rfl, h 49 rfl, h 50 rfl, h 64 rfl, h 65 rfl, h 66 rfl, h 67 rfl, h 68 rfl, h 69 rfl, h 70 rfl, h 71 rfl, h 72 rfl, h 73 rfl, h 74 rfl, h 96 rfl, h 97 rfl, h 98 rfl, h 99 rfl, h 100 rfl, h 101 rfl, h 102 rfl]
  exact hc
theorem RCl.congr {σ τ : Sto} {Z : Zt} (h : SameC σ τ) (hr : RCl σ Z) : RCl τ Z := by
  obtain ⟨h1, h2⟩ := h
  obtain ⟨r1, r2, r3, r4, r5, r6, r7, r8, r9⟩ := hr
  refine ⟨r1.congr h1, ?_, fun s hs => ?_, ?_, ?_, ?_, fun q hq => (r7 q hq).congr h1, ?_, ?_⟩
  · rw [h1 33 rfl]; exact r2
  · rw [h2]; exact (r3 s hs).congr h1
  · rw [h2]; exact r4
  · rw [h2]; exact r5
  · rw [h1 147 rfl]; exact r6
  · rw [h1 17 rfl]; exact r8
  · rw [h1 256 rfl]; exact r9
theorem RMx.congr {σ τ : Sto} {Z : Zt} (h : ∀ f, f = 166 ∨ f = 352 ∨ f = 164 ∨ f = 336 ∨ f = 168 ∨ f = 368 → τ.1 f = σ.1 f) (hr : RMx σ Z) : RMx τ Z := by
  obtain ⟨r1, r2, r3, r4, r5, r6⟩ := hr
  refine ⟨?_, ?_, ?_, ?_, ?_, ?_⟩
  · rw [h 166 (by omega)]; exact r1
  · rw [h 352 (by omega)]; exact r2
  · rw [h 164 (by omega)]; exact r3
  · rw [h 336 (by omega)]; exact r4
  · rw [h 168 (by omega)]; exact r5
  · rw [h 368 (by omega)]; exact r6
theorem RMo.congr {σ τ : Sto} {Z : Zt} (h : SameM σ τ) (hr : RMo σ Z) : RMo τ Z := by
  refine ⟨fun k hk => by rw [h 304 rfl]; exact hr.1 k hk, hr.2.congr fun f hf => h f ?_⟩
  rcases hf with rfl | rfl | rfl | rfl | rfl | rfl <;> rfl
theorem RMx_up {σ : Sto} {Z : Zt} {f j l : Nat} {v : Int32} (hr : RMx σ Z) (hf : ¬ (f = 166 ∨ f = 352 ∨ f = 164 ∨ f = 336 ∨ f = 168 ∨ f = 368)) : RMx (up σ f j l v) Z := hr.congr fun f' h => up_f fun e => hf (e ▸ h)
/-! what holds of every state -/
def LoK (m : Mt) (p : Nat) : Prop := (100 ≤ (m p).toInt ∧ (m p).toInt ≤ 99999) ∧ (0 ≤ (m (p + 1)).toInt ∧ (m (p + 1)).toInt ≤ 50) ∧ (1 ≤ (m (p + 2)).toInt ∧ (m (p + 2)).toInt ≤ 36) ∧ (0 ≤ (m (p + 3)).toInt ∧ (m (p + 3)).toInt ≤ 4) ∧ (0 ≤ (m (p + 4)).toInt ∧ (m (p + 4)).toInt ≤ 99999) ∧ (m (p + 3) = 1 → 0 ≤ (m (p + 5)).toInt ∧ (m (p + 5)).toInt ≤ 99999) ∧ (0 ≤ (m (p + 6)).toInt ∧ (m (p + 6)).toInt ≤ 5000 * (m 0).toInt) ∧ (0 ≤ (m (p + 7)).toInt ∧ (m (p + 7)).toInt ≤ (m (p + 4)).toInt) ∧ (0 ≤ (m (p + 8)).toInt ∧ (m (p + 8)).toInt ≤ (m 0).toInt) ∧ (0 ≤ (m (p + 9)).toInt ∧ (m (p + 9)).toInt ≤ 3) ∧ (m (p + 10) = -5 ∨ 0 ≤ (m (p + 10)).toInt ∧ (m (p + 10)).toInt ≤ 3) ∧ (¬ m (p + 3) = 1 → m (p + 4) = 0 ∧ m (p + 6) = 0 ∧ m (p + 7) = 0 ∧ m (p + 8) = 0 ∧ m (p + 10) = -5)
def NoK (m : Mt) (p : Nat) : Prop := isI m (m p) ∧ isL m (m (p + 1)) ∧ (m (p + 2) = 0 ∨ m (p + 2) = 1) ∧ (0 ≤ (m (p + 3)).toInt ∧ (m (p + 3)).toInt ≤ 99999) ∧ (¬ m (34 + 11 * (m (p + 1)).toNatClampNeg + 3) = 3 → m (p + 6) = 0)
/-- sums of whole numbers -/
def si (f : Nat → Int) : Nat → Int
  | 0 => 0
  | n + 1 => si f n + f n
def siN (m : Mt) (l : Int32) : Int := si (fun n => if m (144 + 7 * n + 1) = l then (m (144 + 7 * n + 3)).toInt else 0) (nc m)
def SmK (m : Mt) (l : Nat) : Prop := (m (34 + 11 * l + 3) = 1 → siN m (nI l) = (m (34 + 11 * l + 4)).toInt) ∧ (m (34 + 11 * l + 3) = 0 → siN m (nI l) < (m (34 + 11 * l)).toInt)
def InvM (K : Int) (m : Mt) : Prop := Cnt m ∧ (0 ≤ (m 0).toInt ∧ (m 0).toInt ≤ 240) ∧ (0 ≤ (m 5).toInt ∧ (m 5).toInt ≤ 50) ∧ (0 ≤ (m 4).toInt ∧ (m 4).toInt ≤ K) ∧ (∀ i, i < 8 → 0 ≤ (m (10 + 3 * i)).toInt) ∧ (∀ l, l < nb m → LoK m (34 + 11 * l)) ∧ (∀ n, n < nc m → NoK m (144 + 7 * n)) ∧ (∀ l, l < nb m → SmK m l) ∧ ∀ i, na m ≤ i → i < 8 → m (10 + 3 * i + 1) = 0 ∧ m (10 + 3 * i + 2) = 0
theorem InvM.kin {K : Int} {m : Mt} (h : InvM K m) : Kin m := fun n hn => (h.2.2.2.2.2.2.1 n hn).2.2.1
theorem InvM.mono {K K' : Int} {m : Mt} (h : InvM K m) (hk : K ≤ K') : InvM K' m := ⟨h.1, h.2.1, h.2.2.1, ⟨h.2.2.2.1.1, Int.le_trans h.2.2.2.1.2 hk⟩, h.2.2.2.2⟩
def InvZ (K : Int) (Z : Zt) : Prop := InvM K Z.1 ∧ (∀ s, s < Z.2.1.1 → InvM K (Z.2.1.2 s)) ∧ ∀ q, Z.2.2.1 = some q → InvM K q
theorem InvZ.mono {K K' : Int} {Z : Zt} (h : InvZ K Z) (hk : K ≤ K') : InvZ K' Z := ⟨h.1.mono hk, fun s hs => (h.2.1 s hs).mono hk, fun q hq => (h.2.2 q hq).mono hk⟩
/-- a call on both sides: the same answer, and both hold the same again -/
def Pair (K : Int) (Z : Zt) (f9 f10 : Sto → Option (Int32 × Sto)) : Prop := ∃ (r : Int32) (Z' : Zt), InvZ K Z' ∧ (∀ σ, RCl σ Z → ∃ τ, f9 σ = some (r, τ) ∧ RCl τ Z' ∧ SameM σ τ) ∧ (∀ σ, RMo σ Z → ∃ τ, f10 σ = some (r, τ) ∧ RMo τ Z' ∧ SameC σ τ)
theorem Pair.q {K : Int} {Z : Zt} (hI : InvZ K Z) {f9 f10 : Sto → Option (Int32 × Sto)} (r : Int32) (h9 : ∀ σ, RCl σ Z → f9 σ = some (r, σ)) (h10 : ∀ σ, RMo σ Z → f10 σ = some (r, up σ 160 0 0 0)) : Pair K Z f9 f10 :=
  ⟨r, Z, hI, fun σ h => ⟨σ, h9 σ h, h, SameM.refl σ⟩, fun σ h => ⟨_, h10 σ h, ⟨Mod_un h.1 (by decide), RMx_up h.2 (by decide)⟩, SameC_up rfl⟩⟩
theorem RMo.t {σ : Sto} {Z : Zt} (h : RMo σ Z) : Mod (up σ 160 0 0 0) Z.1 := Mod_un h.1 (by decide)
