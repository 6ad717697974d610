/-! the first store -/
def sg0 : Sto := (fun f _ l => if (f = 89 ∧ l = 0) ∨ (f = 304 ∧ l = 5) then 5 else 0, fun s => if s < 4 then 3 + s else 3)
def m00 : Mt := fun k => if k = 5 then 5 else 0
theorem sg_z {f j l : Nat} (h : f ≠ 89) (h2 : f ≠ 304) : sg0.1 f j l = 0 := if_neg (by omega)
theorem m00_z {k : Nat} (h : k ≠ 5) : m00 k = 0 := if_neg h
theorem cla0 (j : Nat) : Cla sg0 j m00 := by
  refine ⟨⟨rfl, rfl, rfl, rfl, rfl, rfl, fun s _ => ?_⟩, fun i _ => ?_, fun l _ => ?_, fun n _ => ?_⟩
  · rw [sg_z (by decide) (by decide), m00_z (by omega)]
  · simp (disch := omega) only [sg_z, m00_z, and_self]
  · simp (disch := omega) only [sg_z, m00_z, and_self]
  · simp (disch := omega) only [sg_z, m00_z, and_self]
theorem inv0 : InvM 0 m00 := by
  have z1 : nc m00 = 0 := by decide
  have z2 : nb m00 = 0 := by decide
  refine ⟨⟨by decide, by decide, by decide⟩, by decide, by decide, by decide, fun i hi => ?_, fun l hl => ?_, fun n hn => ?_, fun l hl => ?_, fun i _ _ => ?_⟩
  · rw [m00_z (by omega)]; decide
  · rw [z2] at hl; exact absurd hl (Nat.not_lt_zero l)
  · rw [z1] at hn; exact absurd hn (Nat.not_lt_zero n)
  · rw [z2] at hl; exact absurd hl (Nat.not_lt_zero l)
  · rw [m00_z (by omega), m00_z (by omega)]; exact ⟨rfl, rfl⟩
def Z00 : Zt := (m00, (0, fun _ => m00), none, (0, fun _ => 0))
theorem hst0 : Hst sg0 0 := by
  refine ⟨Z00, ⟨inv0, fun s hs => absurd hs (Nat.not_lt_zero s), fun q hq => (by cases hq)⟩, ⟨cla0 0, ⟨?_, Nat.zero_le _⟩, fun s hs => absurd hs (Nat.not_lt_zero s), fun s hs => ?_, fun s t h1 h2 e => ?_, ?_, fun q hq => (by cases hq), ⟨?_, Nat.zero_le _⟩, fun i hi => absurd hi (Nat.not_lt_zero i)⟩, fun k hk => ?_, ⟨?_, Nat.zero_le _⟩, fun s hs => absurd hs (Nat.not_lt_zero s), ?_, fun q hq => (by cases hq), ⟨?_, Nat.zero_le _⟩, fun i hi => absurd hi (Nat.not_lt_zero i)⟩
  · exact sg_z (by decide) (by decide)
  · show 3 ≤ (if s < 4 then 3 + s else 3) ∧ (if s < 4 then 3 + s else 3) < 7
    rw [if_pos hs]
    omega
  · have e' : (if s < 4 then 3 + s else 3) = (if t < 4 then 3 + t else 3) := e
    rw [if_pos h1, if_pos h2] at e'
    omega
  · exact sg_z (by decide) (by decide)
  · exact sg_z (by decide) (by decide)
  · show (if ((304 : Nat) = 89 ∧ k = 0) ∨ ((304 : Nat) = 304 ∧ k = 5) then (5 : Int32) else 0) = if k = 5 then 5 else 0
    by_cases e : k = 5
    · rw [if_pos (Or.inr ⟨rfl, e⟩), if_pos e]
    · rw [if_neg (by omega), if_neg e]
  · exact sg_z (by decide) (by decide)
  · exact sg_z (by decide) (by decide)
  · exact sg_z (by decide) (by decide)
theorem law_first {L : Nat} {xs : Nat → Int32} (hL : L ≤ 2560) : ∃ τ, dc_law L xs sg0 = some τ := law_all hL hst0
