/-! the fundings of the text: the reference's reading -/
def FrT (σ τ : Sto) : Prop := (∀ f, f ≠ 172 → f ≠ 173 → f ≠ 416 → τ.1 f = σ.1 f) ∧ τ.2 = σ.2
theorem FrT.refl (σ : Sto) : FrT σ σ := ⟨fun _ _ _ _ => rfl, rfl⟩
theorem FrT.trans {σ τ υ : Sto} (h : FrT σ τ) (h2 : FrT τ υ) : FrT σ υ := ⟨fun f a b c => (h2.1 f a b c).trans (h.1 f a b c), h2.2.trans h.2⟩
theorem FrT_up {σ τ : Sto} {f j l : Nat} {v : Int32} (hf : f = 172 ∨ f = 173 ∨ f = 416) (h : FrT σ τ) : FrT σ (up τ f j l v) := ⟨fun f' a b c => (up_f (by omega)).trans (h.1 f' a b c), h.2⟩
theorem FrT.same {σ τ : Sto} (h : FrT σ τ) : SameC σ τ := ⟨fun f hf => h.1 f (by rintro rfl; cases hf) (by rintro rfl; cases hf) (by rintro rfl; cases hf), h.2⟩
theorem FrT.mid {σ τ : Sto} {Z : Zt} {m : Mt} {o : Int32} (h : FrT σ τ) (hm : RMid σ Z m o) : RMid τ Z m o := by
  obtain ⟨a, b, c, d⟩ := hm
  refine ⟨fun k hk => ?_, b.congr fun f hf => h.1 f (by omega) (by omega) (by omega), fun k hk => ?_, ?_⟩
  · rw [h.1 304 (by decide) (by decide) (by decide)]; exact a k hk
  · rw [h.1 320 (by decide) (by decide) (by decide)]; exact c k hk
  · rw [h.1 169 (by decide) (by decide) (by decide)]; exact d
def TxM (σ : Sto) (t : Nat → Int32) (n : Nat) : Prop := σ.1 168 0 0 = nI n ∧ n ≤ 60 ∧ ∀ i, i < n → σ.1 368 0 i = t i
theorem FrT.tx {σ τ : Sto} {t : Nat → Int32} {n : Nat} (h : FrT σ τ) (hm : TxM σ t n) : TxM τ t n := ⟨by rw [h.1 168 (by decide) (by decide) (by decide)]; exact hm.1, hm.2.1, fun i hi => by rw [h.1 368 (by decide) (by decide) (by decide)]; exact hm.2.2 i hi⟩
def Stq (σ : Sto) (p : Nat) (b : Int32) : Prop := σ.1 172 0 0 = nI p ∧ σ.1 173 0 0 = b
def lk (t : Nat → Int32) (n p : Nat) : Int32 := if n ≤ p then -1 else t p
theorem look_eq {σ : Sto} {t : Nat → Int32} {n p : Nat} {b : Int32} (hT : TxM σ t n) (hs : Stq σ p b) (hp : p ≤ n) : dc_X10_look σ = some (lk t n p, σ) := by
  have hn := hT.2.1
  unfold dc_X10_look lk
  rw [hT.1, hs.1]
  by_cases c : n ≤ p
  · rw [if_pos (by rw [nI_leI (by omega) (by omega)]; exact c), if_pos c]
  · rw [if_neg (by rw [nI_leI (by omega) (by omega)]; exact c), if_neg c, if_pos (inb_nI (show p < 60 by omega) (by decide)), nI_clamp (by omega), hT.2.2 p (by omega)]
theorem in_dg {σ : Sto} (r : Int32) : dc_X10_in r 48 57 σ = some (if dg r then 1 else 0, σ) := by rw [in_eq, rng]; rfl
theorem dg_9 (r : Int32) : (0 ≤ (r - 48).toInt ∧ (r - 48).toInt ≤ 9) ↔ dg r := by
  have z : (48 : Int32).toInt = 48 := rfl
  constructor
  · intro ⟨h1, h2⟩
    have e : r = (r - 48) + 48 := (Int32.sub_add_cancel r 48).symm
    have : r.toInt = (r - 48).toInt + 48 := by
      have := tadd (x := r - 48) (y := 48) (by rw [z]; omega) (by rw [z]; omega)
      rw [← e, z] at this
      exact this
    constructor <;> omega
  · intro ⟨h1, h2⟩
    rw [tsub (by rw [z]; omega) (by rw [z]; omega), z]
    omega
theorem dg_0 (r : Int32) : r = 48 ↔ (r - 48).toInt = 0 := by
  rw [show (0 : Int) = (0 : Int32).toInt from rfl, ← teq]
  exact ⟨fun h => by rw [h]; decide, fun h => by rw [← Int32.sub_add_cancel r 48, h]; decide⟩
theorem in_d9 {σ : Sto} (r : Int32) : dc_X10_in (r - 48) 0 9 σ = some (if dg r then 1 else 0, σ) := by
  rw [in_eq, rng, show (0 : Int32).toInt = 0 from rfl, show (9 : Int32).toInt = 9 from rfl]
  rw [if10 (dg_9 r).symm]
theorem in_d1 {σ : Sto} (r : Int32) : dc_X10_in (r - 48) 1 9 σ = some (if dg r ∧ ¬ r = 48 then 1 else 0, σ) := by
  rw [in_eq, rng, show (1 : Int32).toInt = 1 from rfl, show (9 : Int32).toInt = 9 from rfl]
  have : (dg r ∧ ¬ r = 48) ↔ (1 ≤ (r - 48).toInt ∧ (r - 48).toInt ≤ 9) := by
    rw [← dg_9 r, dg_0 r]
    omega
  rw [if10 this]
theorem must_eq {σ : Sto} {p : Nat} {b a : Int32} (hs : Stq σ p b) : ∃ τ, dc_X10_must a σ = some τ ∧ FrT σ τ ∧ τ.1 416 = σ.1 416 ∧ Stq τ (if b = 0 ∧ ¬ a = 0 then p + 1 else p) (if b = 0 ∧ ¬ a = 0 then 0 else 1) := by
  have z10 : ¬ (1 : Int32) = 0 := by decide
  unfold dc_X10_must
  simp only [jn, lt]
  rw [hs.2]
  by_cases c : b = 0 ∧ ¬ a = 0
  · rw [if_pos c.1, if_neg c.2, if_pos (Or.inl trivial), up_eq, if_pos rfl, up_ne (by decide), hs.1, if_pos c, if_pos c, nI_1]
    exact ⟨_, rfl, FrT_up (Or.inl rfl) (FrT_up (Or.inr (Or.inl rfl)) (FrT.refl σ)), (up_f (by decide)).trans (up_f (by decide)), up_eq, (up_ne (by decide)).trans up_eq⟩
  · have e : (if b = 0 then if a = 0 then (if (1 : Int32) = 0 ∨ (1 : Int32) = 1 then (if (up σ 173 0 0 1).1 173 0 0 = 0 then some (up (up σ 173 0 0 1) 172 0 0 ((up σ 173 0 0 1).1 172 0 0 + 1)) else some (up (up σ 173 0 0 1) 172 0 0 ((up σ 173 0 0 1).1 172 0 0 + 0))) else none) else (if (0 : Int32) = 0 ∨ (0 : Int32) = 1 then (if (up σ 173 0 0 0).1 173 0 0 = 0 then some (up (up σ 173 0 0 0) 172 0 0 ((up σ 173 0 0 0).1 172 0 0 + 1)) else some (up (up σ 173 0 0 0) 172 0 0 ((up σ 173 0 0 0).1 172 0 0 + 0))) else none) else (if (1 : Int32) = 0 ∨ (1 : Int32) = 1 then (if (up σ 173 0 0 1).1 173 0 0 = 0 then some (up (up σ 173 0 0 1) 172 0 0 ((up σ 173 0 0 1).1 172 0 0 + 1)) else some (up (up σ 173 0 0 1) 172 0 0 ((up σ 173 0 0 1).1 172 0 0 + 0))) else none)) = some (up (up σ 173 0 0 1) 172 0 0 (nI p)) := by
      have e1 : (if (1 : Int32) = 0 ∨ (1 : Int32) = 1 then (if (up σ 173 0 0 1).1 173 0 0 = 0 then some (up (up σ 173 0 0 1) 172 0 0 ((up σ 173 0 0 1).1 172 0 0 + 1)) else some (up (up σ 173 0 0 1) 172 0 0 ((up σ 173 0 0 1).1 172 0 0 + 0))) else none) = some (up (up σ 173 0 0 1) 172 0 0 (nI p)) := by
        rw [if_pos (Or.inr rfl), up_eq, if_neg z10, up_ne (by decide), hs.1, Int32.add_zero]
      by_cases c1 : b = 0
      · have c2 : a = 0 := Classical.byContradiction fun z => c ⟨c1, z⟩
        rw [if_pos c1, if_pos c2, e1]
      · rw [if_neg c1, e1]
    rw [if_neg c, if_neg c]
    refine ⟨_, e, FrT_up (Or.inl rfl) (FrT_up (Or.inr (Or.inl rfl)) (FrT.refl σ)), (up_f (by decide)).trans (up_f (by decide)), up_eq, (up_ne (by decide)).trans up_eq⟩
/-- how far the reading is -/
def Rch (t : Nat → Int32) (n : Nat) (R : Int32 × Nat × Fds) (e pl p : Nat) (b : Int32) (F : Fds) : Prop := p ≤ n ∧ ((b = 0 ∧ 6 * e + pl ≤ p ∧ ∃ k, p + k = n ∧ R = rd t n k pl e p F) ∨ (b = 1 ∧ R.1 = nI p))
theorem Rch.step {t : Nat → Int32} {n : Nat} {R : Int32 × Nat × Fds} {e pl p : Nat} {b a : Int32} {F : Fds} (h : Rch t n R e pl p b F) (hp : pl ≤ 4) (ha : ¬ a = 0 ↔ (p < n ∧ alw (t p) pl)) : Rch t n R e (pl + 1) (if b = 0 ∧ ¬ a = 0 then p + 1 else p) (if b = 0 ∧ ¬ a = 0 then 0 else 1) (tk F e (lk t n p) pl) := by
  obtain ⟨h1, ⟨hb, h6, k, hk, hR⟩ | ⟨hb, hR⟩⟩ := h
  · by_cases c : ¬ a = 0
    · rw [if_pos ⟨hb, c⟩, if_pos ⟨hb, c⟩]
      obtain ⟨c1, c2⟩ := ha.mp c
      obtain ⟨k, rfl⟩ : ∃ z, k = z + 1 := ⟨k - 1, by omega⟩
      refine ⟨by omega, Or.inl ⟨rfl, by omega, k, by omega, ?_⟩⟩
      unfold rd at hR
      have n59 : ¬ t p = 59 := fun z => by
        rw [z] at c2
        rcases c2 with ⟨h, hd⟩ | ⟨h, hd⟩ | ⟨h, hd⟩ | ⟨h, hd, -⟩ | ⟨h, -⟩
        · exact absurd hd (by decide)
        · exact absurd hd (by decide)
        · exact absurd hd (by decide)
        · exact absurd hd (by decide)
        · omega
      rw [if_pos c2, if_neg n59] at hR
      rw [hR]
      unfold lk
      rw [if_neg (by omega)]
    · rw [if_neg (fun z => c z.2), if_neg (fun z => c z.2)]
      refine ⟨h1, Or.inr ⟨rfl, ?_⟩⟩
      cases k with
      | zero =>
        unfold rd at hR
        rw [if_neg (by omega)] at hR
        rw [hR, show p = n by omega]
      | succ k =>
        unfold rd at hR
        rw [if_neg (fun z => c (ha.mpr ⟨by omega, z⟩))] at hR
        rw [hR]
  · have nb0 : ¬ (b = 0 ∧ ¬ a = 0) := fun z => absurd (z.1.symm.trans hb) (by decide)
    rw [if_neg nb0, if_neg nb0]
    exact ⟨h1, Or.inr ⟨rfl, hR⟩⟩
/-- what is told of one funding -/
def TE (t : Nat → Int32) (n : Nat) (R : Int32 × Nat × Fds) (e : Nat) (F : Fds) (σ τ : Sto) : Prop := FrT σ τ ∧ (∀ x, x < 4 * e → τ.1 416 0 x = σ.1 416 0 x) ∧ ∃ p b, Stq τ p b ∧ p ≤ n ∧ ((b = 1 ∧ R.1 = nI p) ∨ (b = 0 ∧ ∃ pl F' k, 5 ≤ pl ∧ pl ≤ 9 ∧ 6 * e + pl ≤ p ∧ p + k = n ∧ R = rd t n k pl e p F' ∧ (∀ w, w < 4 → τ.1 416 0 (4 * e + w) = F' e w) ∧ (∀ e' w, ¬ e' = e → F' e' w = F e' w) ∧ (pl = 9 ∨ ¬ (p < n ∧ dg (t p)))))
theorem x4p (e w : Nat) : ((4 : Int32) * nI e) + nI w = nI (4 * e + w) := by rw [show (4 : Int32) = nI 4 from rfl, nI_mul, nI_add]
theorem digs {t : Nat → Int32} {n e : Nat} {R : Int32 × Nat × Fds} (he : e ≤ 10) : ∀ (j c p : Nat) (F : Fds) (x b : Int32) (σ : Sto) (f : Nat), c + j = 5 → 1 ≤ c → j < f → Stq σ p b → TxM σ t n → Rch t n R e (4 + c) p b F → (b = 0 → x = F e 3 ∧ ∀ w, w < 3 → σ.1 416 0 (4 * e + w) = F e w) → ∃ τ, wh2 (fun (rec24 : Int32 → Int32 → Sto → Option Sto) (x26 : Int32) (x27 : Int32) (σ25 : Sto) => jn (fun (σ28 : Sto) => (if inb (((4 : Int32) * (nI e)) + (3 : Int32)) 64 then some (up σ28 416 0 (((4 : Int32) * (nI e)) + (3 : Int32)).toNatClampNeg x26) else none)) (fun k29 => (if (5 : Int32) ≤ x27 then k29 σ25 else (if (σ25.1 173 0 0) = 0 then (bd (dc_X10_look  σ25) fun r30 σ31 => (bd (dc_X10_in r30 (48 : Int32) (57 : Int32) σ31) fun r32 σ33 => (if r32 = 0 then k29 σ33 else (bd (dc_X10_look  σ33) fun r34 σ35 => rec24 ((((10 : Int32) * x26) + r34) - (48 : Int32)) (x27 + 1) (up σ35 172 0 0 ((σ35.1 172 0 0) + (1 : Int32))))))) else k29 σ25)))) f x (nI c) σ = some τ ∧ TE t n R e F σ τ := by
  -- the end
  have fin : ∀ (c p : Nat) (F : Fds) (x b : Int32) (σ : Sto), 1 ≤ c → c ≤ 5 → Stq σ p b → Rch t n R e (4 + c) p b F → (b = 0 → x = F e 3 ∧ ∀ w, w < 3 → σ.1 416 0 (4 * e + w) = F e w) → (b = 0 → c = 5 ∨ ¬ (p < n ∧ dg (t p))) → TE t n R e F σ (up σ 416 0 (4 * e + 3) x) := fun c p F x b σ h1 h5 hs hR hx hq => by
    refine ⟨FrT_up (Or.inr (Or.inr rfl)) (FrT.refl σ), fun y hy => up_nl (by omega), p, b, ⟨(up_ne (by decide)).trans hs.1, (up_ne (by decide)).trans hs.2⟩, hR.1, ?_⟩
    rcases hR.2 with ⟨hb, h6, k, hk, hR'⟩ | ⟨hb, hR'⟩
    · refine Or.inr ⟨hb, 4 + c, F, k, by omega, by omega, h6, hk, hR', fun w hw => ?_, fun _ _ _ => rfl, (hq hb).imp (fun z => by omega) id⟩
      by_cases ew : w = 3
      · rw [ew, up_eq]; exact (hx hb).1
      · rw [up_nl (by omega)]; exact (hx hb).2 w (by omega)
    · exact Or.inl ⟨hb, hR'⟩
  intro j
  induction j with
  | zero =>
    intro c p F x b σ f hc h1 hf hs hT hR hx
    obtain ⟨f, rfl⟩ : ∃ z, f = z + 1 := ⟨f - 1, by omega⟩
    unfold wh2
    simp only [jn]
    rw [show ((4 : Int32) * nI e) + (3 : Int32) = nI (4 * e + 3) from x4p e 3, if_pos (show (5 : Int32) ≤ nI c by rw [show (5 : Int32) = nI 5 from rfl, nI_leI (by omega) (by omega)]; omega), if_pos (inb_nI (show 4 * e + 3 < 64 by omega) (by decide)), nI_clamp (by omega)]
    exact ⟨_, rfl, fin c p F x b σ h1 (by omega) hs hR hx (fun _ => Or.inl (by omega))⟩
  | succ j ih =>
    intro c p F x b σ f hc h1 hf hs hT hR hx
    obtain ⟨f, rfl⟩ : ∃ z, f = z + 1 := ⟨f - 1, by omega⟩
    have hn := hT.2.1
    have IH := fun c p F x b σ => ih c p F x b σ f
    show ∃ τ, (fun (rec24 : Int32 → Int32 → Sto → Option Sto) (x26 : Int32) (x27 : Int32) (σ25 : Sto) => jn (fun (σ28 : Sto) => (if inb (((4 : Int32) * (nI e)) + (3 : Int32)) 64 then some (up σ28 416 0 (((4 : Int32) * (nI e)) + (3 : Int32)).toNatClampNeg x26) else none)) (fun k29 => (if (5 : Int32) ≤ x27 then k29 σ25 else (if (σ25.1 173 0 0) = 0 then (bd (dc_X10_look  σ25) fun r30 σ31 => (bd (dc_X10_in r30 (48 : Int32) (57 : Int32) σ31) fun r32 σ33 => (if r32 = 0 then k29 σ33 else (bd (dc_X10_look  σ33) fun r34 σ35 => rec24 ((((10 : Int32) * x26) + r34) - (48 : Int32)) (x27 + 1) (up σ35 172 0 0 ((σ35.1 172 0 0) + (1 : Int32))))))) else k29 σ25)))) (wh2 (fun (rec24 : Int32 → Int32 → Sto → Option Sto) (x26 : Int32) (x27 : Int32) (σ25 : Sto) => jn (fun (σ28 : Sto) => (if inb (((4 : Int32) * (nI e)) + (3 : Int32)) 64 then some (up σ28 416 0 (((4 : Int32) * (nI e)) + (3 : Int32)).toNatClampNeg x26) else none)) (fun k29 => (if (5 : Int32) ≤ x27 then k29 σ25 else (if (σ25.1 173 0 0) = 0 then (bd (dc_X10_look  σ25) fun r30 σ31 => (bd (dc_X10_in r30 (48 : Int32) (57 : Int32) σ31) fun r32 σ33 => (if r32 = 0 then k29 σ33 else (bd (dc_X10_look  σ33) fun r34 σ35 => rec24 ((((10 : Int32) * x26) + r34) - (48 : Int32)) (x27 + 1) (up σ35 172 0 0 ((σ35.1 172 0 0) + (1 : Int32))))))) else k29 σ25)))) f) x (nI c) σ = some τ ∧ _
    generalize wh2 (fun (rec24 : Int32 → Int32 → Sto → Option Sto) (x26 : Int32) (x27 : Int32) (σ25 : Sto) => jn (fun (σ28 : Sto) => (if inb (((4 : Int32) * (nI e)) + (3 : Int32)) 64 then some (up σ28 416 0 (((4 : Int32) * (nI e)) + (3 : Int32)).toNatClampNeg x26) else none)) (fun k29 => (if (5 : Int32) ≤ x27 then k29 σ25 else (if (σ25.1 173 0 0) = 0 then (bd (dc_X10_look  σ25) fun r30 σ31 => (bd (dc_X10_in r30 (48 : Int32) (57 : Int32) σ31) fun r32 σ33 => (if r32 = 0 then k29 σ33 else (bd (dc_X10_look  σ33) fun r34 σ35 => rec24 ((((10 : Int32) * x26) + r34) - (48 : Int32)) (x27 + 1) (up σ35 172 0 0 ((σ35.1 172 0 0) + (1 : Int32))))))) else k29 σ25)))) f = rr at IH ⊢
    simp only [jn]
    rw [show ((4 : Int32) * nI e) + (3 : Int32) = nI (4 * e + 3) from x4p e 3, if_neg (show ¬ (5 : Int32) ≤ nI c by rw [show (5 : Int32) = nI 5 from rfl, nI_leI (by omega) (by omega)]; omega), hs.2]
    by_cases cb : b = 0
    · rw [if_pos cb, look_eq hT hs hR.1, bd_s, in_dg, bd_s]
      by_cases cd : dg (lk t n p)
      · rw [if_pos cd, if_neg (by decide), look_eq hT hs hR.1, bd_s, nI_1, hs.1, nI_1]
        have hpn : p < n := Classical.byContradiction fun z => by
          unfold lk at cd
          rw [if_pos (by omega)] at cd
          exact absurd cd (by decide)
        have elk : lk t n p = t p := if_neg (by omega)
        rcases hR.2 with ⟨hb, h6, k, hk, hR'⟩ | ⟨hb, hR'⟩
        · obtain ⟨k, rfl⟩ : ∃ z, k = z + 1 := ⟨k - 1, by omega⟩
          have n59 : ¬ t p = 59 := fun z => by
            rw [elk, z] at cd
            exact absurd cd (by decide)
          have et : tk F e (t p) (4 + c) = fst F e 3 (F e 3 * 10 + (t p - 48)) := by
            unfold tk
            rw [if_neg (by omega), if_neg (by omega), if_neg (by omega), if_neg (by omega), if_neg (by omega)]
          unfold rd at hR'
          rw [if_pos ((alw_5 (by omega)).mpr (Or.inr ⟨by rw [← elk]; exact cd, by omega⟩)), if_neg n59, et] at hR'
          obtain ⟨τ, u1, u2, u3, p', b', u4, u5, u6⟩ := IH (c + 1) (p + 1) (fst F e 3 (F e 3 * 10 + (t p - 48))) (10 * x + lk t n p - 48) b (up σ 172 0 0 (nI (p + 1))) (by omega) (by omega) (by omega) ⟨up_eq, (up_ne (by decide)).trans hs.2⟩ ((FrT_up (Or.inl rfl) (FrT.refl σ)).tx hT) ⟨by omega, Or.inl ⟨hb, by omega, k, by omega, hR'⟩⟩ (fun _ => ⟨by
            rw [fst_eq, (hx hb).1, elk, Int32.mul_comm, Int32.sub_eq_add_neg, Int32.sub_eq_add_neg, Int32.add_assoc], fun w hw => by
            rw [up_ne (by decide), fst_ne (by omega)]; exact (hx hb).2 w hw⟩)
          refine ⟨τ, u1, (FrT_up (Or.inl rfl) (FrT.refl σ)).trans u2, fun y hy => (u3 y hy).trans (up_ne (by decide)), p', b', u4, u5, u6.imp id ?_⟩
          rintro ⟨q0, pl, F', k', q1, q2, q3, q4, q5, q6, q7, q8⟩
          exact ⟨q0, pl, F', k', q1, q2, q3, q4, q5, q6, fun e' w he' => (q7 e' w he').trans (fst_ne (fun z => he' z.1)), q8⟩
        · exact absurd (cb.symm.trans hb) (by decide)
      · rw [if_neg cd, if_pos rfl]
        rw [if_pos (inb_nI (show 4 * e + 3 < 64 by omega) (by decide)), nI_clamp (show 4 * e + 3 < 2 ^ 31 by omega)]
        refine ⟨_, rfl, fin c p F x b σ h1 (by omega) hs hR hx (fun _ => Or.inr fun z => cd ?_)⟩
        unfold lk
        rw [if_neg (by omega)]
        exact z.2
    · rw [if_neg cb, if_pos (inb_nI (show 4 * e + 3 < 64 by omega) (by decide)), nI_clamp (show 4 * e + 3 < 2 ^ 31 by omega)]
      exact ⟨_, rfl, fin c p F x b σ h1 (by omega) hs hR hx (fun z => absurd z cb)⟩
