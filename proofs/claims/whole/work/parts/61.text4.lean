/-! the fundings of the text, made one after the other -/
def rn (F : Fds) : Nat → Nat → Mt → Int32 × Mt
  | 0, _, m => (0, m)
  | k + 1, i, m => if fe m (F i 0) (F i 1) (F i 3) = 0 then rn F k (i + 1) (adn m (F i 0).toNatClampNeg (F i 1).toNatClampNeg (F i 2) (F i 3)) else (fe m (F i 0) (F i 1) (F i 3), m)
theorem rn_inv {K : Int} {F : Fds} (hF : ∀ e, F e 2 = 0 ∨ F e 2 = 1) : ∀ (k i : Nat) (m : Mt), InvM K m → InvM K (rn F k i m).2 := by
  intro k
  induction k with
  | zero => intro i m h; exact h
  | succ k ih =>
    intro i m h
    unfold rn
    by_cases c : fe m (F i 0) (F i 1) (F i 3) = 0
    · rw [if_pos c]
      obtain ⟨i', l', e1, e2, hf⟩ := fe_ok h c
      have ha := h.1.a.2
      have hb := h.1.b.2
      have f1 := hf.1
      have f2 := hf.2.1
      refine ih (i + 1) _ ?_
      rw [e1, e2, nI_clamp (by omega), nI_clamp (by omega)]
      exact InvM_adn h hf (hF i)
    · rw [if_neg c]; exact h
def Told (σ : Sto) (F : Fds) (N : Nat) : Prop := ∀ e w, e < N → w < 4 → σ.1 416 0 (4 * e + w) = F e w
theorem mk_eq {K : Int} {Z : Zt} {F : Fds} {N : Nat} (hN : N ≤ 10) (hF : ∀ e, F e 2 = 0 ∨ F e 2 = 1) : ∀ (k i : Nat) (m : Mt) (σ : Sto) (f : Nat), i + k = N → k < f → InvM K m → RMid σ Z m 0 → Told σ F N →
    ((rn F k i m).1 = 0 → ∃ τ, wh1 (fun (rec8 : Int32 → Sto → Option (Int32 × Sto)) (x10 : Int32) (σ9 : Sto) => (if (nI N) ≤ x10 then (bd (dc_X10_acted (nI N) σ9) fun r11 σ12 => some (r11, σ12)) else (if inb ((4 : Int32) * x10) 64 then (if inb (((4 : Int32) * x10) + (1 : Int32)) 64 then (if inb (((4 : Int32) * x10) + (2 : Int32)) 64 then (if inb (((4 : Int32) * x10) + (3 : Int32)) 64 then (bd (dc_X10_funds (σ9.1 416 0 ((4 : Int32) * x10).toNatClampNeg) (σ9.1 416 0 (((4 : Int32) * x10) + (1 : Int32)).toNatClampNeg) (σ9.1 416 0 (((4 : Int32) * x10) + (2 : Int32)).toNatClampNeg) (σ9.1 416 0 (((4 : Int32) * x10) + (3 : Int32)).toNatClampNeg) σ9) fun r13 σ14 => (if 0 ≤ r13 then rec8 (x10 + 1) σ14 else (bv (dc_X10_putBack  σ14) fun σ16 => some (r13, σ16)))) else none) else none) else none) else none))) f (nI i) σ = some (nI N, τ) ∧ RMo τ (pushZ Z (rn F k i m).2) ∧ SameC σ τ) ∧ (¬ (rn F k i m).1 = 0 → ∃ τ, wh1 (fun (rec8 : Int32 → Sto → Option (Int32 × Sto)) (x10 : Int32) (σ9 : Sto) => (if (nI N) ≤ x10 then (bd (dc_X10_acted (nI N) σ9) fun r11 σ12 => some (r11, σ12)) else (if inb ((4 : Int32) * x10) 64 then (if inb (((4 : Int32) * x10) + (1 : Int32)) 64 then (if inb (((4 : Int32) * x10) + (2 : Int32)) 64 then (if inb (((4 : Int32) * x10) + (3 : Int32)) 64 then (bd (dc_X10_funds (σ9.1 416 0 ((4 : Int32) * x10).toNatClampNeg) (σ9.1 416 0 (((4 : Int32) * x10) + (1 : Int32)).toNatClampNeg) (σ9.1 416 0 (((4 : Int32) * x10) + (2 : Int32)).toNatClampNeg) (σ9.1 416 0 (((4 : Int32) * x10) + (3 : Int32)).toNatClampNeg) σ9) fun r13 σ14 => (if 0 ≤ r13 then rec8 (x10 + 1) σ14 else (bv (dc_X10_putBack  σ14) fun σ16 => some (r13, σ16)))) else none) else none) else none) else none))) f (nI i) σ = some ((rn F k i m).1, τ) ∧ RMo τ Z ∧ SameC σ τ) := by
  intro k
  induction k with
  | zero =>
    intro i m σ f hi hf hI hr hT
    obtain ⟨f, rfl⟩ : ∃ z, f = z + 1 := ⟨f - 1, by omega⟩
    obtain ⟨υ, v1, v2, v3⟩ := acted_eq (nI N) hr
    refine ⟨fun _ => ⟨υ, ?_, v2, v3⟩, fun z => absurd rfl z⟩
    unfold wh1
    rw [if_pos (by rw [nI_leI (by omega) (by omega)]; omega), v1, bd_s]
  | succ k ih =>
    intro i m σ f hi hf hI hr hT
    obtain ⟨f, rfl⟩ : ∃ z, f = z + 1 := ⟨f - 1, by omega⟩
    have IH := fun i m σ => ih i m σ f
    show (_ → ∃ τ, (fun (rec8 : Int32 → Sto → Option (Int32 × Sto)) (x10 : Int32) (σ9 : Sto) => (if (nI N) ≤ x10 then (bd (dc_X10_acted (nI N) σ9) fun r11 σ12 => some (r11, σ12)) else (if inb ((4 : Int32) * x10) 64 then (if inb (((4 : Int32) * x10) + (1 : Int32)) 64 then (if inb (((4 : Int32) * x10) + (2 : Int32)) 64 then (if inb (((4 : Int32) * x10) + (3 : Int32)) 64 then (bd (dc_X10_funds (σ9.1 416 0 ((4 : Int32) * x10).toNatClampNeg) (σ9.1 416 0 (((4 : Int32) * x10) + (1 : Int32)).toNatClampNeg) (σ9.1 416 0 (((4 : Int32) * x10) + (2 : Int32)).toNatClampNeg) (σ9.1 416 0 (((4 : Int32) * x10) + (3 : Int32)).toNatClampNeg) σ9) fun r13 σ14 => (if 0 ≤ r13 then rec8 (x10 + 1) σ14 else (bv (dc_X10_putBack  σ14) fun σ16 => some (r13, σ16)))) else none) else none) else none) else none))) (wh1 (fun (rec8 : Int32 → Sto → Option (Int32 × Sto)) (x10 : Int32) (σ9 : Sto) => (if (nI N) ≤ x10 then (bd (dc_X10_acted (nI N) σ9) fun r11 σ12 => some (r11, σ12)) else (if inb ((4 : Int32) * x10) 64 then (if inb (((4 : Int32) * x10) + (1 : Int32)) 64 then (if inb (((4 : Int32) * x10) + (2 : Int32)) 64 then (if inb (((4 : Int32) * x10) + (3 : Int32)) 64 then (bd (dc_X10_funds (σ9.1 416 0 ((4 : Int32) * x10).toNatClampNeg) (σ9.1 416 0 (((4 : Int32) * x10) + (1 : Int32)).toNatClampNeg) (σ9.1 416 0 (((4 : Int32) * x10) + (2 : Int32)).toNatClampNeg) (σ9.1 416 0 (((4 : Int32) * x10) + (3 : Int32)).toNatClampNeg) σ9) fun r13 σ14 => (if 0 ≤ r13 then rec8 (x10 + 1) σ14 else (bv (dc_X10_putBack  σ14) fun σ16 => some (r13, σ16)))) else none) else none) else none) else none))) f) (nI i) σ = some (nI N, τ) ∧ _) ∧ (_ → ∃ τ, (fun (rec8 : Int32 → Sto → Option (Int32 × Sto)) (x10 : Int32) (σ9 : Sto) => (if (nI N) ≤ x10 then (bd (dc_X10_acted (nI N) σ9) fun r11 σ12 => some (r11, σ12)) else (if inb ((4 : Int32) * x10) 64 then (if inb (((4 : Int32) * x10) + (1 : Int32)) 64 then (if inb (((4 : Int32) * x10) + (2 : Int32)) 64 then (if inb (((4 : Int32) * x10) + (3 : Int32)) 64 then (bd (dc_X10_funds (σ9.1 416 0 ((4 : Int32) * x10).toNatClampNeg) (σ9.1 416 0 (((4 : Int32) * x10) + (1 : Int32)).toNatClampNeg) (σ9.1 416 0 (((4 : Int32) * x10) + (2 : Int32)).toNatClampNeg) (σ9.1 416 0 (((4 : Int32) * x10) + (3 : Int32)).toNatClampNeg) σ9) fun r13 σ14 => (if 0 ≤ r13 then rec8 (x10 + 1) σ14 else (bv (dc_X10_putBack  σ14) fun σ16 => some (r13, σ16)))) else none) else none) else none) else none))) (wh1 (fun (rec8 : Int32 → Sto → Option (Int32 × Sto)) (x10 : Int32) (σ9 : Sto) => (if (nI N) ≤ x10 then (bd (dc_X10_acted (nI N) σ9) fun r11 σ12 => some (r11, σ12)) else (if inb ((4 : Int32) * x10) 64 then (if inb (((4 : Int32) * x10) + (1 : Int32)) 64 then (if inb (((4 : Int32) * x10) + (2 : Int32)) 64 then (if inb (((4 : Int32) * x10) + (3 : Int32)) 64 then (bd (dc_X10_funds (σ9.1 416 0 ((4 : Int32) * x10).toNatClampNeg) (σ9.1 416 0 (((4 : Int32) * x10) + (1 : Int32)).toNatClampNeg) (σ9.1 416 0 (((4 : Int32) * x10) + (2 : Int32)).toNatClampNeg) (σ9.1 416 0 (((4 : Int32) * x10) + (3 : Int32)).toNatClampNeg) σ9) fun r13 σ14 => (if 0 ≤ r13 then rec8 (x10 + 1) σ14 else (bv (dc_X10_putBack  σ14) fun σ16 => some (r13, σ16)))) else none) else none) else none) else none))) f) (nI i) σ = some ((rn F (k + 1) i m).1, τ) ∧ _)
    generalize wh1 (fun (rec8 : Int32 → Sto → Option (Int32 × Sto)) (x10 : Int32) (σ9 : Sto) => (if (nI N) ≤ x10 then (bd (dc_X10_acted (nI N) σ9) fun r11 σ12 => some (r11, σ12)) else (if inb ((4 : Int32) * x10) 64 then (if inb (((4 : Int32) * x10) + (1 : Int32)) 64 then (if inb (((4 : Int32) * x10) + (2 : Int32)) 64 then (if inb (((4 : Int32) * x10) + (3 : Int32)) 64 then (bd (dc_X10_funds (σ9.1 416 0 ((4 : Int32) * x10).toNatClampNeg) (σ9.1 416 0 (((4 : Int32) * x10) + (1 : Int32)).toNatClampNeg) (σ9.1 416 0 (((4 : Int32) * x10) + (2 : Int32)).toNatClampNeg) (σ9.1 416 0 (((4 : Int32) * x10) + (3 : Int32)).toNatClampNeg) σ9) fun r13 σ14 => (if 0 ≤ r13 then rec8 (x10 + 1) σ14 else (bv (dc_X10_putBack  σ14) fun σ16 => some (r13, σ16)))) else none) else none) else none) else none))) f = rr at IH ⊢
    have hn : ¬ nI N ≤ nI i := by rw [nI_leI (by omega) (by omega)]; omega
    have step : ∀ rr : Int32 → Sto → Option (Int32 × Sto), (fun (rec8 : Int32 → Sto → Option (Int32 × Sto)) (x10 : Int32) (σ9 : Sto) => (if (nI N) ≤ x10 then (bd (dc_X10_acted (nI N) σ9) fun r11 σ12 => some (r11, σ12)) else (if inb ((4 : Int32) * x10) 64 then (if inb (((4 : Int32) * x10) + (1 : Int32)) 64 then (if inb (((4 : Int32) * x10) + (2 : Int32)) 64 then (if inb (((4 : Int32) * x10) + (3 : Int32)) 64 then (bd (dc_X10_funds (σ9.1 416 0 ((4 : Int32) * x10).toNatClampNeg) (σ9.1 416 0 (((4 : Int32) * x10) + (1 : Int32)).toNatClampNeg) (σ9.1 416 0 (((4 : Int32) * x10) + (2 : Int32)).toNatClampNeg) (σ9.1 416 0 (((4 : Int32) * x10) + (3 : Int32)).toNatClampNeg) σ9) fun r13 σ14 => (if 0 ≤ r13 then rec8 (x10 + 1) σ14 else (bv (dc_X10_putBack  σ14) fun σ16 => some (r13, σ16)))) else none) else none) else none) else none))) rr (nI i) σ = (bd (dc_X10_funds (F i 0) (F i 1) (F i 2) (F i 3) σ) fun r13 σ14 => (if 0 ≤ r13 then rr (nI (i + 1)) σ14 else (bv (dc_X10_putBack  σ14) fun σ16 => some (r13, σ16)))) := fun rr => by
      simp only [x4z, x4_1, x4_2, x4_3, nI_1]
      rw [if_neg hn, if_pos (inb_nI (show 4 * i < 64 by omega) (by decide)), if_pos (inb_nI (show 4 * i + 1 < 64 by omega) (by decide)), if_pos (inb_nI (show 4 * i + 2 < 64 by omega) (by decide)), if_pos (inb_nI (show 4 * i + 3 < 64 by omega) (by decide)), nI_clamp (show 4 * i < 2 ^ 31 by omega), nI_clamp (show 4 * i + 1 < 2 ^ 31 by omega), nI_clamp (show 4 * i + 2 < 2 ^ 31 by omega), nI_clamp (show 4 * i + 3 < 2 ^ 31 by omega), show σ.1 416 0 (4 * i) = F i 0 from hT i 0 (by omega) (by decide), hT i 1 (by omega) (by decide), hT i 2 (by omega) (by decide), hT i 3 (by omega) (by decide)]
    rw [step rr]
    by_cases c : fe m (F i 0) (F i 1) (F i 3) = 0
    · obtain ⟨i', l', e1, e2, hf'⟩ := fe_ok hI c
      have ha := hI.1.a.2
      have hb := hI.1.b.2
      have f1 := hf'.1
      have f2 := hf'.2.1
      obtain ⟨τ, t1, t2, t3⟩ := fu_ok (k := F i 2) hI hr hf'
      have er : rn F (k + 1) i m = rn F k (i + 1) (adn m i' l' (F i 2) (F i 3)) := by
        show (if fe m (F i 0) (F i 1) (F i 3) = 0 then _ else _) = _
        rw [if_pos c, e1, e2, nI_clamp (by omega), nI_clamp (by omega)]
      obtain ⟨g1, g2⟩ := IH (i + 1) (adn m i' l' (F i 2) (F i 3)) τ (by omega) (by omega) (InvM_adn hI hf' (hF i)) t2 (fun e w he hw => by rw [t3.2]; exact hT e w he hw)
      rw [er, e1, e2, t1, bd_s, if_pos (msn_nt hI hf' (hF i))]
      refine ⟨fun z => ?_, fun z => ?_⟩
      · obtain ⟨υ, u1, u2, u3⟩ := g1 z
        exact ⟨υ, u1, u2, t3.1.trans u3⟩
      · obtain ⟨υ, u1, u2, u3⟩ := g2 z
        exact ⟨υ, u1, u2, t3.1.trans u3⟩
    · have er : rn F (k + 1) i m = (fe m (F i 0) (F i 1) (F i 3), m) := by
        show (if fe m (F i 0) (F i 1) (F i 3) = 0 then _ else _) = _
        rw [if_neg c]
      obtain ⟨τ, t1, t2, t3⟩ := putBack_eq hr
      rw [er, fu_no hI hr.1 _ _ _ _ c, bd_s, if_neg (fe_neg hI c), t1, bv_s]
      exact ⟨fun z => absurd z c, fun _ => ⟨τ, rfl, t2, t3⟩⟩
theorem rd_end {t : Nat → Int32} {n pl e i : Nat} {F : Fds} (h : 4 < pl) : rd t n 0 pl e i F = (-1, e + 1, F) := if_pos h
/-- the reference reads all of the text -/
theorem read_m {T : Option (Int32 × Sto) → Prop} {σ0 : Sto} {t : Nat → Int32} {n : Nat} {R : Int32 × Nat × Fds} (h0 : TxM σ0 t n)
    (fin0 : ∀ N F τ, R = (-1, N, F) → N ≤ 10 → FrT σ0 τ → Told τ F N → T (wh1 (fun (rec8 : Int32 → Sto → Option (Int32 × Sto)) (x10 : Int32) (σ9 : Sto) => (if (nI N) ≤ x10 then (bd (dc_X10_acted (nI N) σ9) fun r11 σ12 => some (r11, σ12)) else (if inb ((4 : Int32) * x10) 64 then (if inb (((4 : Int32) * x10) + (1 : Int32)) 64 then (if inb (((4 : Int32) * x10) + (2 : Int32)) 64 then (if inb (((4 : Int32) * x10) + (3 : Int32)) 64 then (bd (dc_X10_funds (σ9.1 416 0 ((4 : Int32) * x10).toNatClampNeg) (σ9.1 416 0 (((4 : Int32) * x10) + (1 : Int32)).toNatClampNeg) (σ9.1 416 0 (((4 : Int32) * x10) + (2 : Int32)).toNatClampNeg) (σ9.1 416 0 (((4 : Int32) * x10) + (3 : Int32)).toNatClampNeg) σ9) fun r13 σ14 => (if 0 ≤ r13 then rec8 (x10 + 1) σ14 else (bv (dc_X10_putBack  σ14) fun σ16 => some (r13, σ16)))) else none) else none) else none) else none))) FU (0 : Int32) τ)) (fin1 : ∀ p τ, FrT σ0 τ → p ≤ n → R.1 = nI p → T (some ((-100 : Int32) - nI p, τ))) :
    ∀ (j e i : Nat) (F : Fds) (σ : Sto) (f : Nat), e + j = 11 → j + 1 < f → FrT σ0 σ → Stq σ i 0 → Rch t n R e 0 i 0 F → Told σ F e → T (wh2 (fun (rec4 : Int32 → Int32 → Sto → Option (Int32 × Sto)) (x6 : Int32) (x7 : Int32) (σ5 : Sto) => (if x7 = 0 then (if (σ5.1 173 0 0) = 0 then wh1 (fun (rec8 : Int32 → Sto → Option (Int32 × Sto)) (x10 : Int32) (σ9 : Sto) => (if x6 ≤ x10 then (bd (dc_X10_acted x6 σ9) fun r11 σ12 => some (r11, σ12)) else (if inb ((4 : Int32) * x10) 64 then (if inb (((4 : Int32) * x10) + (1 : Int32)) 64 then (if inb (((4 : Int32) * x10) + (2 : Int32)) 64 then (if inb (((4 : Int32) * x10) + (3 : Int32)) 64 then (bd (dc_X10_funds (σ9.1 416 0 ((4 : Int32) * x10).toNatClampNeg) (σ9.1 416 0 (((4 : Int32) * x10) + (1 : Int32)).toNatClampNeg) (σ9.1 416 0 (((4 : Int32) * x10) + (2 : Int32)).toNatClampNeg) (σ9.1 416 0 (((4 : Int32) * x10) + (3 : Int32)).toNatClampNeg) σ9) fun r13 σ14 => (if 0 ≤ r13 then rec8 (x10 + 1) σ14 else (bv (dc_X10_putBack  σ14) fun σ16 => some (r13, σ16)))) else none) else none) else none) else none))) FU (0 : Int32) σ5 else some ((-100 : Int32) - (σ5.1 172 0 0), σ5)) else (bv (dc_X10_tell x6 σ5) fun σ18 => jn (fun (v19 : Int32) => (if v19 = 0 then rec4 (x6 + 1) v19 σ18 else (bd (dc_X10_look  σ18) fun r21 σ22 => jn (fun (v23 : Int32) => (bv (dc_X10_must v23 σ22) fun σ26 => (if (σ26.1 173 0 0) = 0 then rec4 (x6 + 1) (1 : Int32) σ26 else rec4 (x6 + 1) (0 : Int32) σ26))) (fun k24 => (if r21 = (59 : Int32) then k24 (1 : Int32) else k24 (0 : Int32)))))) (fun k20 => (if (σ18.1 173 0 0) = 0 then (if (σ18.1 168 0 0) ≤ (σ18.1 172 0 0) then k20 (0 : Int32) else k20 (1 : Int32)) else k20 (0 : Int32)))))) f (nI e) (1 : Int32) σ) := by
  have z10 : ¬ (1 : Int32) = 0 := by decide
  -- the last round
  have last : ∀ (N : Nat) (σ : Sto) (p : Nat) (b : Int32) (f : Nat), 0 < f → Stq σ p b → T (if b = 0 then wh1 (fun (rec8 : Int32 → Sto → Option (Int32 × Sto)) (x10 : Int32) (σ9 : Sto) => (if (nI N) ≤ x10 then (bd (dc_X10_acted (nI N) σ9) fun r11 σ12 => some (r11, σ12)) else (if inb ((4 : Int32) * x10) 64 then (if inb (((4 : Int32) * x10) + (1 : Int32)) 64 then (if inb (((4 : Int32) * x10) + (2 : Int32)) 64 then (if inb (((4 : Int32) * x10) + (3 : Int32)) 64 then (bd (dc_X10_funds (σ9.1 416 0 ((4 : Int32) * x10).toNatClampNeg) (σ9.1 416 0 (((4 : Int32) * x10) + (1 : Int32)).toNatClampNeg) (σ9.1 416 0 (((4 : Int32) * x10) + (2 : Int32)).toNatClampNeg) (σ9.1 416 0 (((4 : Int32) * x10) + (3 : Int32)).toNatClampNeg) σ9) fun r13 σ14 => (if 0 ≤ r13 then rec8 (x10 + 1) σ14 else (bv (dc_X10_putBack  σ14) fun σ16 => some (r13, σ16)))) else none) else none) else none) else none))) FU (0 : Int32) σ else some ((-100 : Int32) - nI p, σ)) → T (wh2 (fun (rec4 : Int32 → Int32 → Sto → Option (Int32 × Sto)) (x6 : Int32) (x7 : Int32) (σ5 : Sto) => (if x7 = 0 then (if (σ5.1 173 0 0) = 0 then wh1 (fun (rec8 : Int32 → Sto → Option (Int32 × Sto)) (x10 : Int32) (σ9 : Sto) => (if x6 ≤ x10 then (bd (dc_X10_acted x6 σ9) fun r11 σ12 => some (r11, σ12)) else (if inb ((4 : Int32) * x10) 64 then (if inb (((4 : Int32) * x10) + (1 : Int32)) 64 then (if inb (((4 : Int32) * x10) + (2 : Int32)) 64 then (if inb (((4 : Int32) * x10) + (3 : Int32)) 64 then (bd (dc_X10_funds (σ9.1 416 0 ((4 : Int32) * x10).toNatClampNeg) (σ9.1 416 0 (((4 : Int32) * x10) + (1 : Int32)).toNatClampNeg) (σ9.1 416 0 (((4 : Int32) * x10) + (2 : Int32)).toNatClampNeg) (σ9.1 416 0 (((4 : Int32) * x10) + (3 : Int32)).toNatClampNeg) σ9) fun r13 σ14 => (if 0 ≤ r13 then rec8 (x10 + 1) σ14 else (bv (dc_X10_putBack  σ14) fun σ16 => some (r13, σ16)))) else none) else none) else none) else none))) FU (0 : Int32) σ5 else some ((-100 : Int32) - (σ5.1 172 0 0), σ5)) else (bv (dc_X10_tell x6 σ5) fun σ18 => jn (fun (v19 : Int32) => (if v19 = 0 then rec4 (x6 + 1) v19 σ18 else (bd (dc_X10_look  σ18) fun r21 σ22 => jn (fun (v23 : Int32) => (bv (dc_X10_must v23 σ22) fun σ26 => (if (σ26.1 173 0 0) = 0 then rec4 (x6 + 1) (1 : Int32) σ26 else rec4 (x6 + 1) (0 : Int32) σ26))) (fun k24 => (if r21 = (59 : Int32) then k24 (1 : Int32) else k24 (0 : Int32)))))) (fun k20 => (if (σ18.1 173 0 0) = 0 then (if (σ18.1 168 0 0) ≤ (σ18.1 172 0 0) then k20 (0 : Int32) else k20 (1 : Int32)) else k20 (0 : Int32)))))) f (nI N) (0 : Int32) σ) := fun N σ p b f hf hs hT => by
    obtain ⟨f, rfl⟩ : ∃ z, f = z + 1 := ⟨f - 1, by omega⟩
    unfold wh2
    rw [if_pos rfl, hs.2, hs.1]
    exact hT
  intro j
  induction j with
  | zero =>
    intro e i F σ f he hf hFr hs hR hTo
    rcases hR.2 with ⟨-, h6, -⟩ | ⟨hb, -⟩
    · have := hR.1
      have := h0.2.1
      omega
    · exact absurd hb (by decide)
  | succ j ih =>
    intro e i F σ f he hf hFr hs hR hTo
    obtain ⟨f, rfl⟩ : ∃ z, f = z + 1 := ⟨f - 1, by omega⟩
    have IH := fun e i F σ => ih e i F σ f
    have LA := fun N σ p b => last N σ p b f
    show T ((fun (rec4 : Int32 → Int32 → Sto → Option (Int32 × Sto)) (x6 : Int32) (x7 : Int32) (σ5 : Sto) => (if x7 = 0 then (if (σ5.1 173 0 0) = 0 then wh1 (fun (rec8 : Int32 → Sto → Option (Int32 × Sto)) (x10 : Int32) (σ9 : Sto) => (if x6 ≤ x10 then (bd (dc_X10_acted x6 σ9) fun r11 σ12 => some (r11, σ12)) else (if inb ((4 : Int32) * x10) 64 then (if inb (((4 : Int32) * x10) + (1 : Int32)) 64 then (if inb (((4 : Int32) * x10) + (2 : Int32)) 64 then (if inb (((4 : Int32) * x10) + (3 : Int32)) 64 then (bd (dc_X10_funds (σ9.1 416 0 ((4 : Int32) * x10).toNatClampNeg) (σ9.1 416 0 (((4 : Int32) * x10) + (1 : Int32)).toNatClampNeg) (σ9.1 416 0 (((4 : Int32) * x10) + (2 : Int32)).toNatClampNeg) (σ9.1 416 0 (((4 : Int32) * x10) + (3 : Int32)).toNatClampNeg) σ9) fun r13 σ14 => (if 0 ≤ r13 then rec8 (x10 + 1) σ14 else (bv (dc_X10_putBack  σ14) fun σ16 => some (r13, σ16)))) else none) else none) else none) else none))) FU (0 : Int32) σ5 else some ((-100 : Int32) - (σ5.1 172 0 0), σ5)) else (bv (dc_X10_tell x6 σ5) fun σ18 => jn (fun (v19 : Int32) => (if v19 = 0 then rec4 (x6 + 1) v19 σ18 else (bd (dc_X10_look  σ18) fun r21 σ22 => jn (fun (v23 : Int32) => (bv (dc_X10_must v23 σ22) fun σ26 => (if (σ26.1 173 0 0) = 0 then rec4 (x6 + 1) (1 : Int32) σ26 else rec4 (x6 + 1) (0 : Int32) σ26))) (fun k24 => (if r21 = (59 : Int32) then k24 (1 : Int32) else k24 (0 : Int32)))))) (fun k20 => (if (σ18.1 173 0 0) = 0 then (if (σ18.1 168 0 0) ≤ (σ18.1 172 0 0) then k20 (0 : Int32) else k20 (1 : Int32)) else k20 (0 : Int32)))))) (wh2 (fun (rec4 : Int32 → Int32 → Sto → Option (Int32 × Sto)) (x6 : Int32) (x7 : Int32) (σ5 : Sto) => (if x7 = 0 then (if (σ5.1 173 0 0) = 0 then wh1 (fun (rec8 : Int32 → Sto → Option (Int32 × Sto)) (x10 : Int32) (σ9 : Sto) => (if x6 ≤ x10 then (bd (dc_X10_acted x6 σ9) fun r11 σ12 => some (r11, σ12)) else (if inb ((4 : Int32) * x10) 64 then (if inb (((4 : Int32) * x10) + (1 : Int32)) 64 then (if inb (((4 : Int32) * x10) + (2 : Int32)) 64 then (if inb (((4 : Int32) * x10) + (3 : Int32)) 64 then (bd (dc_X10_funds (σ9.1 416 0 ((4 : Int32) * x10).toNatClampNeg) (σ9.1 416 0 (((4 : Int32) * x10) + (1 : Int32)).toNatClampNeg) (σ9.1 416 0 (((4 : Int32) * x10) + (2 : Int32)).toNatClampNeg) (σ9.1 416 0 (((4 : Int32) * x10) + (3 : Int32)).toNatClampNeg) σ9) fun r13 σ14 => (if 0 ≤ r13 then rec8 (x10 + 1) σ14 else (bv (dc_X10_putBack  σ14) fun σ16 => some (r13, σ16)))) else none) else none) else none) else none))) FU (0 : Int32) σ5 else some ((-100 : Int32) - (σ5.1 172 0 0), σ5)) else (bv (dc_X10_tell x6 σ5) fun σ18 => jn (fun (v19 : Int32) => (if v19 = 0 then rec4 (x6 + 1) v19 σ18 else (bd (dc_X10_look  σ18) fun r21 σ22 => jn (fun (v23 : Int32) => (bv (dc_X10_must v23 σ22) fun σ26 => (if (σ26.1 173 0 0) = 0 then rec4 (x6 + 1) (1 : Int32) σ26 else rec4 (x6 + 1) (0 : Int32) σ26))) (fun k24 => (if r21 = (59 : Int32) then k24 (1 : Int32) else k24 (0 : Int32)))))) (fun k20 => (if (σ18.1 173 0 0) = 0 then (if (σ18.1 168 0 0) ≤ (σ18.1 172 0 0) then k20 (0 : Int32) else k20 (1 : Int32)) else k20 (0 : Int32)))))) f) (nI e) (1 : Int32) σ)
    generalize wh2 (fun (rec4 : Int32 → Int32 → Sto → Option (Int32 × Sto)) (x6 : Int32) (x7 : Int32) (σ5 : Sto) => (if x7 = 0 then (if (σ5.1 173 0 0) = 0 then wh1 (fun (rec8 : Int32 → Sto → Option (Int32 × Sto)) (x10 : Int32) (σ9 : Sto) => (if x6 ≤ x10 then (bd (dc_X10_acted x6 σ9) fun r11 σ12 => some (r11, σ12)) else (if inb ((4 : Int32) * x10) 64 then (if inb (((4 : Int32) * x10) + (1 : Int32)) 64 then (if inb (((4 : Int32) * x10) + (2 : Int32)) 64 then (if inb (((4 : Int32) * x10) + (3 : Int32)) 64 then (bd (dc_X10_funds (σ9.1 416 0 ((4 : Int32) * x10).toNatClampNeg) (σ9.1 416 0 (((4 : Int32) * x10) + (1 : Int32)).toNatClampNeg) (σ9.1 416 0 (((4 : Int32) * x10) + (2 : Int32)).toNatClampNeg) (σ9.1 416 0 (((4 : Int32) * x10) + (3 : Int32)).toNatClampNeg) σ9) fun r13 σ14 => (if 0 ≤ r13 then rec8 (x10 + 1) σ14 else (bv (dc_X10_putBack  σ14) fun σ16 => some (r13, σ16)))) else none) else none) else none) else none))) FU (0 : Int32) σ5 else some ((-100 : Int32) - (σ5.1 172 0 0), σ5)) else (bv (dc_X10_tell x6 σ5) fun σ18 => jn (fun (v19 : Int32) => (if v19 = 0 then rec4 (x6 + 1) v19 σ18 else (bd (dc_X10_look  σ18) fun r21 σ22 => jn (fun (v23 : Int32) => (bv (dc_X10_must v23 σ22) fun σ26 => (if (σ26.1 173 0 0) = 0 then rec4 (x6 + 1) (1 : Int32) σ26 else rec4 (x6 + 1) (0 : Int32) σ26))) (fun k24 => (if r21 = (59 : Int32) then k24 (1 : Int32) else k24 (0 : Int32)))))) (fun k20 => (if (σ18.1 173 0 0) = 0 then (if (σ18.1 168 0 0) ≤ (σ18.1 172 0 0) then k20 (0 : Int32) else k20 (1 : Int32)) else k20 (0 : Int32)))))) f = rr at IH LA ⊢
    clear ih last
    have hT := hFr.tx h0
    obtain ⟨τ, t1, t2, t3, p, b, t4, t5, t6⟩ := tell_eq (by omega) hT hs hR
    have gF := hFr.trans t2
    dsimp only
    rw [if_neg z10, t1, bv_s, t4.2, t4.1, (gF.tx h0).1]
    simp only [jn, nI_1]
    rcases t6 with ⟨hb, hR1⟩ | ⟨hb, pl, F', k, q1, q2, q3, q4, q5, q6, q7, q8⟩
    · rw [if_neg (by rw [hb]; exact z10), if_pos trivial]
      exact LA (e + 1) τ p b (by omega) t4 (by rw [if_neg (by rw [hb]; exact z10)]; exact fin1 p τ gF t5 hR1)
    · have To' : Told τ F' (e + 1) := fun e' w he' hw => by
        by_cases ee : e' = e
        · rw [ee]; exact q6 w hw
        · rw [t3 _ (by omega), q7 e' w ee]; exact hTo e' w (by omega) hw
      rw [if_pos hb]
      by_cases cn : n ≤ p
      · rw [if_pos (by have := h0.2.1; rw [nI_leI (by omega) (by omega)]; exact cn), if_pos trivial]
        have hk0 : k = 0 := by omega
        subst hk0
        rw [rd_end (by omega)] at q5
        exact LA (e + 1) τ p b (by omega) t4 (by rw [if_pos hb]; exact fin0 (e + 1) F' τ q5 (by have := h0.2.1; omega) gF To')
      · rw [if_neg (by have := h0.2.1; rw [nI_leI (by omega) (by omega)]; exact cn), if_neg z10, look_eq (gF.tx h0) t4 t5, bd_s]
        have elk : lk t n p = t p := if_neg cn
        obtain ⟨k, rfl⟩ : ∃ z, k = z + 1 := ⟨k - 1, by omega⟩
        unfold rd at q5
        obtain ⟨υ, u1, u2, u3, u4⟩ := must_eq (a := if t p = 59 then 1 else 0) t4
        have km : ∀ K : Int32 → Option (Int32 × Sto), (if t p = 59 then K 1 else K 0) = K (if t p = 59 then 1 else 0) := fun K => by
          by_cases c : t p = 59
          · rw [if_pos c, if_pos c]
          · rw [if_neg c, if_neg c]
        have kk : (if lk t n p = 59 then (bv (dc_X10_must 1 τ) fun σ26 => if σ26.1 173 0 0 = 0 then rr (nI (e + 1)) 1 σ26 else rr (nI (e + 1)) 0 σ26) else (bv (dc_X10_must 0 τ) fun σ26 => if σ26.1 173 0 0 = 0 then rr (nI (e + 1)) 1 σ26 else rr (nI (e + 1)) 0 σ26)) = (bv (dc_X10_must (if t p = 59 then 1 else 0) τ) fun σ26 => if σ26.1 173 0 0 = 0 then rr (nI (e + 1)) 1 σ26 else rr (nI (e + 1)) 0 σ26) := by
          rw [elk]
          exact km fun a => (bv (dc_X10_must a τ) fun σ26 => if σ26.1 173 0 0 = 0 then rr (nI (e + 1)) 1 σ26 else rr (nI (e + 1)) 0 σ26)
        rw [kk, u1, bv_s]
        have gU := gF.trans u2
        by_cases c59 : t p = 59
        · have ca : b = 0 ∧ ¬ (if t p = 59 then (1 : Int32) else 0) = 0 := ⟨hb, by rw [if_pos c59]; decide⟩
          rw [if_pos ca, if_pos ca] at u4
          rw [if_pos ((alw_5 q1).mpr (Or.inl c59)), if_pos c59] at q5
          rw [if_pos u4.2]
          exact IH (e + 1) (p + 1) F' υ (by omega) (by omega) gU u4 ⟨by omega, Or.inl ⟨rfl, by omega, k, by omega, q5⟩⟩ (fun e' w he' hw => by rw [u3]; exact To' e' w he' hw)
        · have ca : ¬ (b = 0 ∧ ¬ (if t p = 59 then (1 : Int32) else 0) = 0) := fun z => z.2 (by rw [if_neg c59])
          rw [if_neg ca, if_neg ca] at u4
          have nal : ¬ alw (t p) pl := fun z => by
            rcases (alw_5 q1).mp z with z | ⟨z1, z2⟩
            · exact c59 z
            · rcases q8 with q8 | q8
              · omega
              · exact q8 ⟨by omega, z1⟩
          rw [if_neg nal] at q5
          rw [if_neg (by rw [u4.2]; exact z10)]
          exact LA (e + 1) υ p 1 (by omega) u4 (by rw [if_neg z10]; exact fin1 p υ gU t5 (by rw [q5]))
