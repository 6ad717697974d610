/-! FROM THE CELLS AS THEY WERE MADE TO THE STORE -/
theorem Rb.right' {G : Gm} {b b' : Nat} {M N : List va_E} {H : Heap} (h : Rb G b (M ++ N) H) (e : b + M.length = b') : Rb G b' N H := by
  subst e
  exact h.right
theorem Rb_fill {G : Gm} {F : Nat → List va_E} {w a : Nat} {H : Heap} (hF : ∀ a, (F a).length = w) : ∀ k, Rb G a (fillB F a w k) H → ∀ l, l < k → Rb G (a + w * l) (F (a + w * l)) H
  | 0, _, _, hl => absurd hl (Nat.not_lt_zero _)
  | k + 1, h, l, hl => by
    have h : Rb G a (fillB F a w k ++ F (a + w * k)) H := h
    rcases Nat.lt_or_eq_of_le (Nat.le_of_lt_succ hl) with h1 | h1
    · exact Rb_fill hF k h.left l h1
    · subst h1
      exact h.right' (by rw [fb_len0 hF])
theorem ran_ra {G : Gm} {H : Heap} {a i N q w : Nat} {g : Nat → Nat} (h : va_at G.2.2.1 clz (a, ran G i N q w N) H) (hg : ∀ j, j < N → q + w * j = g j) : va_at G.2.2.1 clz (a, ra G i N g) H := by
  have h1 : H[a]? = some (vp_cell (G.2.2.2 i) (N, .inr (.inr (.inr (.inr (ranf q w N)))))) := h
  show H[a]? = some (vp_cell (G.2.2.2 i) (N, .inr (.inr (.inr (.inr fun j => some (g j))))))
  rw [h1, vp_cell_q, vp_cell_q]
  have e : (fun j : Fin N => va_rf (ranf q w N j.val)) = (fun j : Fin N => va_rf (some (g j.val))) := funext fun j => by
    unfold ranf
    rw [if_pos j.isLt, hg _ j.isLt]
  exact congrArg (fun z : Fin N → Value => some ({ cls := G.2.2.2 i, slots := Array.ofFn z, vm := .none } : Cell)) e
theorem at_as {G : Gm} {H : Heap} {a a' : Nat} {e e' : va_E} (h : va_at G.2.2.1 clz (a, e) H) (ha : a = a') (he : e' = e) : va_at G.2.2.1 clz (a', e') H := by
  subst ha; subst he
  exact h
abbrev ars (G : Gm) : List va_E := [zi G 9, zi G 9, zi G 44, zi G 60, zi G 10, zi G 10]
def L0 (G : Gm) : List va_E := pnM G G.1 ++ ars G
theorem pnM_len {G : Gm} {b : Nat} : (pnM G b).length = 602 := by simp [pnM, mkM_len, hsM_len, txM_len, poM_len]
theorem sg_89 {j l : Nat} (h : l = 0) : sg0.1 89 j l = 5 := if_pos ⟨rfl, h⟩
theorem sg_row {f j : Nat} (h : f ≠ 89) : sg0.1 f j = fun _ => 0 := funext fun _ => sg_z h
section FIN
variable {G : Gm} {H : Heap}
set_option maxHeartbeats 4000000 in
theorem fin_m {j : Nat} (h : Rb G (G.1 + mb j) (mkM G (G.1 + mb j)) H) : va_at G.2.2.1 clz (ad G 5 j 0, cE G sg0 5 j 0) H ∧ va_at G.2.2.1 clz (ad G 11 j 0, cE G sg0 11 j 0) H ∧ va_at G.2.2.1 clz (ad G 12 j 0, cE G sg0 12 j 0) H ∧ va_at G.2.2.1 clz (ad G 13 j 0, cE G sg0 13 j 0) H ∧ va_at G.2.2.1 clz (ad G 14 j 0, cE G sg0 14 j 0) H ∧ (∀ l, l < 8 → va_at G.2.2.1 clz (ad G 3 j l, cE G sg0 3 j l) H) ∧ (∀ l, l < 10 → va_at G.2.2.1 clz (ad G 4 j l, cE G sg0 4 j l) H) ∧ ∀ l, l < 60 → va_at G.2.2.1 clz (ad G 6 j l, cE G sg0 6 j l) H := by
  have c0 := h.at (t := 0) rfl
  have c1 := h.at (t := 1) rfl
  have c2 := h.at (t := 2) rfl
  have c3 := h.at (t := 3) rfl
  have c4 := h.at (t := 4) rfl
  have hq : Rb G (G.1 + mb j + 4) ((([zi G 4] ++ fillB (fun _ => [iv0]) (G.1 + mb j + 5) 1 8) ++ fillB (fun _ => [lo0]) (G.1 + mb j + 13) 1 10) ++ fillB (fun _ => [no0]) (G.1 + mb j + 23) 1 60) H := by
    have h1 := Rb.right' (M := [.inr (5, [.ref (G.1 + mb j + 1), .ref (G.1 + mb j + 2), .ref (G.1 + mb j + 3), .ref (G.1 + mb j + 4), .int 0, .int 0, .int 0, .int 0, .int 0, .int 5]), ran G 2 8 (G.1 + mb j + 5) 1 8, ran G 3 10 (G.1 + mb j + 13) 1 10]) h rfl
    exact Rb.right' (M := [ran G 4 60 (G.1 + mb j + 23) 1 60]) h1 rfl
  have f3 := Rb_fill (w := 1) (a := G.1 + mb j + 5) (fun _ => rfl) 8 (hq.left.left.right' rfl)
  have f4 := Rb_fill (w := 1) (a := G.1 + mb j + 13) (fun _ => rfl) 10 (hq.left.right' (by simp [one_len]))
  have f6 := Rb_fill (w := 1) (a := G.1 + mb j + 23) (fun _ => rfl) 60 (hq.right' (by simp [one_len]))
  refine ⟨at_as c0 rfl ?_, ran_ra c1 (fun l hl => ?_), ran_ra c2 (fun l hl => ?_), ran_ra c3 (fun l hl => ?_), at_as c4 rfl ?_, fun l hl => at_as ((f3 l hl).at (t := 0) rfl) ?_ ?_, fun l hl => at_as ((f4 l hl).at (t := 0) rfl) ?_ ?_, fun l hl => at_as ((f6 l hl).at (t := 0) rfl) ?_ ?_⟩
  · show (Sum.inr (5, [rf G 11 j 0, rf G 12 j 0, rf G 13 j 0, rf G 14 j 0, .int (sg0.1 84 j 0), .int (sg0.1 85 j 0), .int (sg0.1 86 j 0), .int (sg0.1 87 j 0), .int (sg0.1 88 j 0), .int (sg0.1 89 j 0)]) : va_E) = _
    have a1 : rf G 11 j 0 = .ref (G.1 + mb j + 1) := congrArg Value.ref (Nat.add_assoc _ _ _).symm
    have a2 : rf G 12 j 0 = .ref (G.1 + mb j + 2) := congrArg Value.ref (Nat.add_assoc _ _ _).symm
    have a3 : rf G 13 j 0 = .ref (G.1 + mb j + 3) := congrArg Value.ref (Nat.add_assoc _ _ _).symm
    have a4 : rf G 14 j 0 = .ref (G.1 + mb j + 4) := congrArg Value.ref (Nat.add_assoc _ _ _).symm
    rw [sg_z (f := 84) (by decide), sg_z (f := 85) (by decide), sg_z (f := 86) (by decide), sg_z (f := 87) (by decide), sg_z (f := 88) (by decide), sg_89 rfl, a1, a2, a3, a4]
  · show G.1 + mb j + 5 + 1 * l = G.1 + (mb j + 5 + l)
    omega
  · show G.1 + mb j + 13 + 1 * l = G.1 + (mb j + 13 + l)
    omega
  · show G.1 + mb j + 23 + 1 * l = G.1 + (mb j + 23 + l)
    omega
  · show (Sum.inl (G.2.2.2 0, 4, .inl (sg0.1 224 j)) : va_E) = _
    rw [sg_row (f := 224) (by decide)]
  · show G.1 + mb j + 5 + 1 * l + 0 = G.1 + (mb j + 5 + l)
    omega
  · show (Sum.inr (3, [.int (sg0.1 48 j l), .int (sg0.1 49 j l), .int (sg0.1 50 j l)]) : va_E) = _
    rw [sg_z (f := 48) (by decide), sg_z (f := 49) (by decide), sg_z (f := 50) (by decide)]
  · show G.1 + mb j + 13 + 1 * l + 0 = G.1 + (mb j + 13 + l)
    omega
  · show (Sum.inr (4, [.int (sg0.1 64 j l), .int (sg0.1 65 j l), .int (sg0.1 66 j l), .int (sg0.1 67 j l), .int (sg0.1 68 j l), .int (sg0.1 69 j l), .int (sg0.1 70 j l), .int (sg0.1 71 j l), .int (sg0.1 72 j l), .int (sg0.1 73 j l), .int (sg0.1 74 j l)]) : va_E) = _
    rw [sg_z (f := 64) (by decide), sg_z (f := 65) (by decide), sg_z (f := 66) (by decide), sg_z (f := 67) (by decide), sg_z (f := 68) (by decide), sg_z (f := 69) (by decide), sg_z (f := 70) (by decide), sg_z (f := 71) (by decide), sg_z (f := 72) (by decide), sg_z (f := 73) (by decide), sg_z (f := 74) (by decide)]
  · show G.1 + mb j + 23 + 1 * l + 0 = G.1 + (mb j + 23 + l)
    omega
  · show (Sum.inr (6, [.int (sg0.1 96 j l), .int (sg0.1 97 j l), .int (sg0.1 98 j l), .int (sg0.1 99 j l), .int (sg0.1 100 j l), .int (sg0.1 101 j l), .int (sg0.1 102 j l)]) : va_E) = _
    rw [sg_z (f := 96) (by decide), sg_z (f := 97) (by decide), sg_z (f := 98) (by decide), sg_z (f := 99) (by decide), sg_z (f := 100) (by decide), sg_z (f := 101) (by decide), sg_z (f := 102) (by decide)]
set_option maxHeartbeats 4000000 in
theorem fin_all (h : Rb G G.1 (L0 G) H) : ∀ κ j l, okt κ j l → va_at G.2.2.1 clz (ad G κ j l, cE G sg0 κ j l) H := by
  have hp : Rb G G.1 (pnM G G.1) H := h.left
  have hm : Rb G (G.1 + 602) (ars G) H := h.right' (by rw [pnM_len])
  have hR : Rb G (G.1 + 1) ((((((mkM G (G.1 + 1) ++ mkM G (G.1 + 84)) ++ mkM G (G.1 + 167)) ++ hsM G (G.1 + 250)) ++ txM G (G.1 + 584)) ++ [pt0]) ++ poM G (G.1 + 598)) H := Rb.right' (M := [.inr (9, [.ref (G.1 + 1), .ref (G.1 + 84), .ref (G.1 + 167), .int 0, .ref (G.1 + 250), .ref (G.1 + 584), .ref (G.1 + 597), .ref (G.1 + 598)])]) hp rfl
  have m0 : Rb G (G.1 + 1) (mkM G (G.1 + 1)) H := hR.left.left.left.left.left.left
  have m1 : Rb G (G.1 + 84) (mkM G (G.1 + 84)) H := hR.left.left.left.left.left.right' (by rw [mkM_len])
  have m2 : Rb G (G.1 + 167) (mkM G (G.1 + 167)) H := hR.left.left.left.left.right' (by simp only [List.length_append, mkM_len])
  have hh : Rb G (G.1 + 250) (hsM G (G.1 + 250)) H := hR.left.left.left.right' (by simp only [List.length_append, mkM_len])
  have ht : Rb G (G.1 + 584) (txM G (G.1 + 584)) H := hR.left.left.right' (by simp only [List.length_append, mkM_len, hsM_len])
  have hpt : Rb G (G.1 + 597) [pt0] H := hR.left.right' (by simp only [List.length_append, mkM_len, hsM_len, txM_len])
  have hpo : Rb G (G.1 + 598) (poM G (G.1 + 598)) H := hR.right' (by simp only [List.length_append, mkM_len, hsM_len, txM_len, List.length_singleton])
  have hf := Rb_fill (w := 83) (a := G.1 + 250 + 2) (fun _ => mkM_len) 4 (hh.right' (M := [.inr (2, [.ref (G.1 + 250 + 1), .int 0]), ran G 5 4 (G.1 + 250 + 2) 83 4]) rfl)
  have htf := Rb_fill (w := 1) (a := G.1 + 584 + 3) (fun _ => rfl) 10 (ht.right' (M := [.inr (1, [.ref (G.1 + 584 + 1), .int 0, .ref (G.1 + 584 + 2), .int 0]), zc G, ran G 6 10 (G.1 + 584 + 3) 1 10]) rfl)
  have mm : ∀ j, j < 7 → Rb G (G.1 + mb j) (mkM G (G.1 + mb j)) H := by
    intro j hj
    rcases (show j = 0 ∨ j = 1 ∨ j = 2 ∨ j = 3 ∨ j = 4 ∨ j = 5 ∨ j = 6 by omega) with rfl | rfl | rfl | rfl | rfl | rfl | rfl
    · exact m0
    · exact m1
    · exact m2
    · exact hf 0 (by decide)
    · exact hf 1 (by decide)
    · exact hf 2 (by decide)
    · exact hf 3 (by decide)
  intro κ j l hk
  obtain ⟨k1, k2, k3⟩ := hk
  rcases (show κ = 0 ∨ κ = 1 ∨ κ = 2 ∨ κ = 3 ∨ κ = 4 ∨ κ = 5 ∨ κ = 6 ∨ κ = 7 ∨ κ = 8 ∨ κ = 9 ∨ κ = 10 ∨ κ = 11 ∨ κ = 12 ∨ κ = 13 ∨ κ = 14 ∨ κ = 15 ∨ κ = 16 ∨ κ = 17 ∨ κ = 18 ∨ κ = 19 ∨ κ = 20 ∨ κ = 21 ∨ κ = 22 ∨ κ = 23 ∨ κ = 24 by omega) with rfl | rfl | rfl | rfl | rfl | rfl | rfl | rfl | rfl | rfl | rfl | rfl | rfl | rfl | rfl | rfl | rfl | rfl | rfl | rfl | rfl | rfl | rfl | rfl | rfl
  · have k2 : j < 1 := k2
    have k3 : l < 10 := k3
    refine at_as ((htf l k3).at (t := 0) rfl) ?_ ?_
    · show G.1 + 584 + 3 + 1 * l + 0 = G.1 + (587 + l)
      omega
    · show (Sum.inr (0, [.int (sg0.1 0 j l), .int (sg0.1 1 j l), .int (sg0.1 2 j l), .int (sg0.1 3 j l)]) : va_E) = _
      rw [sg_z (f := 0) (by decide), sg_z (f := 1) (by decide), sg_z (f := 2) (by decide), sg_z (f := 3) (by decide)]
  · have k2 : j < 1 := k2
    have k3 : l < 1 := k3
    obtain rfl : j = 0 := by omega
    obtain rfl : l = 0 := by omega
    refine at_as (ht.at (t := 0) rfl) rfl ?_
    show (Sum.inr (1, [rf G 16 0 0, .int (sg0.1 17 0 0), rf G 17 0 0, .int (sg0.1 19 0 0)]) : va_E) = _
    rw [sg_z (f := 17) (by decide), sg_z (f := 19) (by decide)]
    rfl
  · have k2 : j < 1 := k2
    have k3 : l < 1 := k3
    obtain rfl : j = 0 := by omega
    obtain rfl : l = 0 := by omega
    refine at_as (hh.at (t := 0) rfl) rfl ?_
    show (Sum.inr (2, [rf G 15 0 0, .int (sg0.1 33 0 0)]) : va_E) = _
    rw [sg_z (f := 33) (by decide)]
    rfl
  · exact (fin_m (mm j k2)).2.2.2.2.2.1 l k3
  · exact (fin_m (mm j k2)).2.2.2.2.2.2.1 l k3
  · have k3 : l < 1 := k3
    obtain rfl : l = 0 := by omega
    exact (fin_m (mm j k2)).1
  · exact (fin_m (mm j k2)).2.2.2.2.2.2.2 l k3
  · have k2 : j < 1 := k2
    have k3 : l < 1 := k3
    obtain rfl : j = 0 := by omega
    obtain rfl : l = 0 := by omega
    refine at_as (hpt.at (t := 0) rfl) rfl ?_
    show (Sum.inr (7, [.int (sg0.1 112 0 0), .int (sg0.1 113 0 0), .int (sg0.1 114 0 0), .int (sg0.1 115 0 0), .int (sg0.1 116 0 0), .int (sg0.1 117 0 0)]) : va_E) = _
    rw [sg_z (f := 112) (by decide), sg_z (f := 113) (by decide), sg_z (f := 114) (by decide), sg_z (f := 115) (by decide), sg_z (f := 116) (by decide), sg_z (f := 117) (by decide)]
  · have k2 : j < 1 := k2
    have k3 : l < 1 := k3
    obtain rfl : j = 0 := by omega
    obtain rfl : l = 0 := by omega
    refine at_as (hpo.at (t := 0) rfl) rfl ?_
    show (Sum.inr (8, [rf G 18 0 0, rf G 18 1 0, rf G 18 2 0]) : va_E) = _
    rfl
  · have k2 : j < 1 := k2
    have k3 : l < 1 := k3
    obtain rfl : j = 0 := by omega
    obtain rfl : l = 0 := by omega
    refine at_as (hp.at (t := 0) rfl) rfl ?_
    show (Sum.inr (9, [rf G 5 0 0, rf G 5 1 0, rf G 5 2 0, .int (sg0.1 147 0 0), rf G 2 0 0, rf G 1 0 0, rf G 7 0 0, rf G 8 0 0]) : va_E) = _
    rw [sg_z (f := 147) (by decide)]
    rfl
  · have k2 : j < 0 := k2
    exact absurd k2 (Nat.not_lt_zero j)
  · have k3 : l < 1 := k3
    obtain rfl : l = 0 := by omega
    exact (fin_m (mm j k2)).2.1
  · have k3 : l < 1 := k3
    obtain rfl : l = 0 := by omega
    exact (fin_m (mm j k2)).2.2.1
  · have k3 : l < 1 := k3
    obtain rfl : l = 0 := by omega
    exact (fin_m (mm j k2)).2.2.2.1
  · have k3 : l < 1 := k3
    obtain rfl : l = 0 := by omega
    exact (fin_m (mm j k2)).2.2.2.2.1
  · have k2 : j < 1 := k2
    have k3 : l < 1 := k3
    obtain rfl : j = 0 := by omega
    obtain rfl : l = 0 := by omega
    refine ran_ra (hh.at (t := 1) rfl) (fun i hi => ?_)
    have e : sg0.2 i = 3 + i := if_pos hi
    have e2 : off 5 (3 + i) 0 = 252 + 83 * i := by
      show (if 3 + i < 3 then _ else 252 + 83 * (3 + i - 3)) = _
      rw [if_neg (by omega), Nat.add_sub_cancel_left]
    show G.1 + 250 + 2 + 83 * i = G.1 + off 5 (sg0.2 i) 0
    rw [e, e2]
    omega
  · have k2 : j < 1 := k2
    have k3 : l < 1 := k3
    obtain rfl : j = 0 := by omega
    obtain rfl : l = 0 := by omega
    refine at_as (ht.at (t := 1) rfl) rfl ?_
    show (Sum.inl (G.2.2.2 1, 60, .inl (sg0.1 256 0)) : va_E) = _
    rw [sg_row (f := 256) (by decide)]
  · have k2 : j < 1 := k2
    have k3 : l < 1 := k3
    obtain rfl : j = 0 := by omega
    obtain rfl : l = 0 := by omega
    refine ran_ra (ht.at (t := 2) rfl) (fun i hi => ?_)
    show G.1 + 584 + 3 + 1 * i = G.1 + (587 + i)
    omega
  · have k2 : j < 3 := k2
    have k3 : l < 1 := k3
    obtain rfl : l = 0 := by omega
    rcases (show j = 0 ∨ j = 1 ∨ j = 2 by omega) with rfl | rfl | rfl
    · refine at_as (hpo.at (t := 1) rfl) rfl ?_
      show (Sum.inl (G.2.2.2 0, 60, .inl (sg0.1 288 0)) : va_E) = _
      rw [sg_row (f := 288) (by decide)]
    · refine at_as (hpo.at (t := 2) rfl) rfl ?_
      show (Sum.inl (G.2.2.2 0, 60, .inl (sg0.1 288 1)) : va_E) = _
      rw [sg_row (f := 288) (by decide)]
    · refine at_as (hpo.at (t := 3) rfl) rfl ?_
      show (Sum.inl (G.2.2.2 0, 60, .inl (sg0.1 288 2)) : va_E) = _
      rw [sg_row (f := 288) (by decide)]
  · have k2 : j < 1 := k2
    have k3 : l < 1 := k3
    obtain rfl : j = 0 := by omega
    obtain rfl : l = 0 := by omega
    refine at_as (hm.at (t := 0) rfl) rfl ?_
    show (Sum.inl (G.2.2.2 0, 9, .inl (sg0.1 304 0)) : va_E) = _
    rw [sg_row (f := 304) (by decide)]
  · have k2 : j < 1 := k2
    have k3 : l < 1 := k3
    obtain rfl : j = 0 := by omega
    obtain rfl : l = 0 := by omega
    refine at_as (hm.at (t := 1) rfl) rfl ?_
    show (Sum.inl (G.2.2.2 0, 9, .inl (sg0.1 320 0)) : va_E) = _
    rw [sg_row (f := 320) (by decide)]
  · have k2 : j < 1 := k2
    have k3 : l < 1 := k3
    obtain rfl : j = 0 := by omega
    obtain rfl : l = 0 := by omega
    refine at_as (hm.at (t := 2) rfl) rfl ?_
    show (Sum.inl (G.2.2.2 0, 44, .inl (sg0.1 336 0)) : va_E) = _
    rw [sg_row (f := 336) (by decide)]
  · have k2 : j < 1 := k2
    have k3 : l < 1 := k3
    obtain rfl : j = 0 := by omega
    obtain rfl : l = 0 := by omega
    refine at_as (hm.at (t := 3) rfl) rfl ?_
    show (Sum.inl (G.2.2.2 0, 60, .inl (sg0.1 352 0)) : va_E) = _
    rw [sg_row (f := 352) (by decide)]
  · have k2 : j < 1 := k2
    have k3 : l < 1 := k3
    obtain rfl : j = 0 := by omega
    obtain rfl : l = 0 := by omega
    refine at_as (hm.at (t := 4) rfl) rfl ?_
    show (Sum.inl (G.2.2.2 0, 10, .inl (sg0.1 368 0)) : va_E) = _
    rw [sg_row (f := 368) (by decide)]
  · have k2 : j < 1 := k2
    have k3 : l < 1 := k3
    obtain rfl : j = 0 := by omega
    obtain rfl : l = 0 := by omega
    refine at_as (hm.at (t := 5) rfl) rfl ?_
    show (Sum.inl (G.2.2.2 0, 10, .inl (sg0.1 384 0)) : va_E) = _
    rw [sg_row (f := 384) (by decide)]
theorem fin_rep (h : Rb G G.1 (L0 G) H) : Rep G sg0 H := by
  refine ⟨fun k q hk => ?_, fun i => ?_⟩
  · obtain ⟨h1, rfl⟩ := wl_lt hk
    obtain ⟨o1, o2, o3, o4⟩ := off_tok k h1
    have h2 := fin_all h _ _ _ ⟨o2, o3, o4⟩
    exact at_as h2 (by show G.1 + off _ _ _ = G.1 + k; rw [o1]) rfl
  · show (if i < 4 then 3 + i else 3) < 7
    by_cases h : i < 4
    · rw [if_pos h]; omega
    · rw [if_neg h]; decide
end FIN
/-! WHAT HOLDS AT THE LAW'S ENTRY -/
theorem arr_prim {args : Array Value} {s : State} {ty : FieldType} (h : (Cond.arrayClass ty).before args s = true) : ∃ cA : ClassId, ArrOfT s cA ty ∧ s.vm.findClass ("[" ++ ty.toString) = some cA := by
  obtain ⟨c, k, comp, h1, h2, h3⟩ := Cond.arrayClass_spec h
  exact ⟨c, fun n z => ⟨fun k h => (by cases h), k, h2, comp, h3⟩, h1⟩
theorem arr_obj {s : State} {C : String} (h : va_AO C s) : ∃ cA : ClassId, ArrOfT s cA (.object C) ∧ va_RA s cA (.object C) := by
  obtain ⟨comp, c, k, h1, -, h3, h4, h5⟩ := Cond.arrayOver_spec h
  exact ⟨c, fun n z => ⟨fun k h => (by cases h), k, h3, comp, h4⟩, k, comp, h3, h4, h1, h5⟩
section ENTRY
variable {args : Array Value} {s : State}
theorem ent_A (hts : ∀ w ∈ lw_tbl, w.before args s = true) : ∀ w ∈ wsA, w.before args s = true := fun w hw => hts w (List.mem_filter.mp hw).1
theorem ent_OA (hts : ∀ w ∈ lw_tbl, w.before args s = true) : OA s :=
  ⟨va_AO.of (hts (.arrayOver (.object RX0)) (by decide +kernel)), va_AO.of (hts (.arrayOver (.object RX3)) (by decide +kernel)), va_AO.of (hts (.arrayOver (.object RX4)) (by decide +kernel)), va_AO.of (hts (.arrayOver (.object RX5)) (by decide +kernel)), va_AO.of (hts (.arrayOver (.object RX6)) (by decide +kernel))⟩
theorem ent_NW (hts : ∀ w ∈ lw_tbl, w.before args s = true) : NW s :=
  ⟨va_Nw.of rfl (hts (.fieldLinkNest "PeerNotes$Market" 29 "PeerNotes" "FEES" "[I" "PeerNotes") (by decide +kernel)), fun q hq => va_Nw.of rfl (hts _ ((by decide +kernel : ∀ q ∈ nsM, Cond.methodLinkNest q.1 q.2.1 q.2.2.1 q.2.2.2 ∈ lw_tbl) q hq))⟩
theorem ent_Wt (hts : ∀ w ∈ lw_tbl, w.before args s = true) (g t : Nat) : ∃ G : Gm, (G.1 = g ∧ G.2.1 = t) ∧ Wt G s := by
  have hA := ent_A hts
  have hk : ∀ κ : Nat, ∃ p : ClassId × (Nat → Nat), ∀ q : vw_C, clz[κ]? = some q → u_Kn s q.1 q.2.1 q.2.2 p.1 p.2 := by
    intro κ
    obtain ⟨c0, i0, h0⟩ := u_known (C := RX0) (T := TX0) (N := 4) hA inA0 (hA _ wi_X0)
    match κ with
    | 0 => exact ⟨(c0, i0), fun q hq => by cases hq; exact h0⟩
    | 1 => obtain ⟨c, i, h⟩ := u_known (C := RX1) (T := TX1) (N := 4) hA inA1 (hA _ wi_X1); exact ⟨(c, i), fun q hq => by cases hq; exact h⟩
    | 2 => obtain ⟨c, i, h⟩ := u_known (C := RX2) (T := TX2) (N := 2) hA inA2 (hA _ wi_X2); exact ⟨(c, i), fun q hq => by cases hq; exact h⟩
    | 3 => obtain ⟨c, i, h⟩ := u_known (C := RX3) (T := TX3) (N := 3) hA inA3 (hA _ wi_X3); exact ⟨(c, i), fun q hq => by cases hq; exact h⟩
    | 4 => obtain ⟨c, i, h⟩ := u_known (C := RX4) (T := TX4) (N := 11) hA inA4 (hA _ wi_X4); exact ⟨(c, i), fun q hq => by cases hq; exact h⟩
    | 5 => obtain ⟨c, i, h⟩ := u_known (C := RX5) (T := TX5) (N := 10) hA inA5 (hA _ wi_X5); exact ⟨(c, i), fun q hq => by cases hq; exact h⟩
    | 6 => obtain ⟨c, i, h⟩ := u_known (C := RX6) (T := TX6) (N := 7) hA inA6 (hA _ wi_X6); exact ⟨(c, i), fun q hq => by cases hq; exact h⟩
    | 7 => obtain ⟨c, i, h⟩ := u_known (C := RX7) (T := TX7) (N := 6) hA inA7 (hA _ wi_X7); exact ⟨(c, i), fun q hq => by cases hq; exact h⟩
    | 8 => obtain ⟨c, i, h⟩ := u_known (C := RX8) (T := TX8) (N := 3) hA inA8 (hA _ wi_X8); exact ⟨(c, i), fun q hq => by cases hq; exact h⟩
    | 9 => obtain ⟨c, i, h⟩ := u_known (C := RX9) (T := TX9) (N := 8) hA inA9 (hA _ wi_X9); exact ⟨(c, i), fun q hq => by cases hq; exact h⟩
    | k + 10 => exact ⟨(c0, i0), fun q hq => by cases hq⟩
  obtain ⟨f, hf⟩ := Classical.axiomOfChoice hk
  obtain ⟨o0, o3, o4, o5, o6⟩ := ent_OA hts
  obtain ⟨a0, x0, y0⟩ := arr_prim (hA _ wr_int)
  obtain ⟨a1, x1, y1⟩ := arr_prim (hA _ wr_char)
  obtain ⟨a2, x2, y2⟩ := arr_obj o3
  obtain ⟨a3, x3, y3⟩ := arr_obj o4
  obtain ⟨a4, x4, y4⟩ := arr_obj o6
  obtain ⟨a5, x5, y5⟩ := arr_obj o5
  obtain ⟨a6, x6, y6⟩ := arr_obj o0
  refine ⟨(g, t, (fun κ => (f κ).1, fun κ => (f κ).2), fun c => match c with | 0 => a0 | 1 => a1 | 2 => a2 | 3 => a3 | 4 => a4 | 5 => a5 | _ => a6), ⟨rfl, rfl⟩, ⟨fun c q hq => hf c q hq, fun k q hq => ?_⟩, ent_NW hts⟩
  match k with
  | 0 => cases hq; exact ⟨x0, y0⟩
  | 1 => cases hq; exact ⟨x1, y1⟩
  | 2 => cases hq; exact ⟨x2, y2⟩
  | 3 => cases hq; exact ⟨x3, y3⟩
  | 4 => cases hq; exact ⟨x4, y4⟩
  | 5 => cases hq; exact ⟨x5, y5⟩
  | 6 => cases hq; exact ⟨x6, y6⟩
  | k + 7 => cases hq
theorem ent_fees (hts : ∀ w ∈ lw_tbl, w.before args s = true) (hgv : (Jvm.Cond.and given_1 narrow_1).before args s = true) {A : Nat → Prop} (hA : ∀ a : Nat, a < s.heap.size → ¬ A a) : ∃ t : Nat, va_Z "PeerNotes" "FEES" "[I" (.ref t) A s s.heap ∧ va_T .int t 4 feeV A s s.heap := by
  have hs := flat_of_before _ hgv
  obtain ⟨t, h1, h2⟩ := va_Tof (tm := .static "PeerNotes" "FEES" "[I") (ty := .int) (N := 4) (f := feeV) (by decide) (hs _ (by decide +kernel)) (va_eqt (z := 4) (hs _ (by decide +kernel))) (fun j hj => by
    rcases (show j = 0 ∨ j = 1 ∨ j = 2 ∨ j = 3 by omega) with rfl | rfl | rfl | rfl
    · exact va_eqt (t := .elem (.static "PeerNotes" "FEES" "[I") (.int 0)) (z := 5) (hs _ (by decide +kernel))
    · exact va_eqt (t := .elem (.static "PeerNotes" "FEES" "[I") (.int 1)) (z := 10) (hs _ (by decide +kernel))
    · exact va_eqt (t := .elem (.static "PeerNotes" "FEES" "[I") (.int 2)) (z := 20) (hs _ (by decide +kernel))
    · exact va_eqt (t := .elem (.static "PeerNotes" "FEES" "[I") (.int 3)) (z := 40) (hs _ (by decide +kernel))) hA
  exact ⟨t, va_Zof (hts (.laysStatic "PeerNotes" "FEES" "[I") (by decide +kernel)) (hts (.initialized "PeerNotes") (by decide +kernel)) h1 hA, h2⟩
end ENTRY
