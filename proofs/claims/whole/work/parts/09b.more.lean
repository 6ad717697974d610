theorem v_tcase {R : Type} {p : Prop} [Decidable p] {A B : Option R} {res : R} {T : Prop} (h : (if p then A else B) = some res) (ht : p → A = some res → T) (hf : ¬ p → B = some res → T) : T := by
  by_cases hp : p
  · rw [if_pos hp] at h
    exact ht hp h
  · rw [if_neg hp] at h
    exact hf hp h
