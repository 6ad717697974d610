theorem v_tcase {R : Type} {p : Prop} [Decidable p] {A B : Option R} {res : R} {T : Prop} (h : (if p then A else B) = some res) (ht : p → A = some res → T) (hf : ¬ p → B = some res → T) : T := by
  by_cases hp : p
  · rw [if_pos hp] at h
    exact ht hp h
  · rw [if_neg hp] at h
    exact hf hp h
/-- a store gets a name -/
def lt {α : Type} (x : Sto) (k : Sto → Option α) : Option α := k x
theorem v_lt {X : Cx} {G : Gm} {mc ms : Nat} {Q : State → Prop} {pc : Nat} {lc : List (Option Value)} {st : List Value} {R : Type} {x : Sto} {k : Sto → Option R} {res : R} (h : lt x k = some res) (kk : ∀ s : Sto, k s = some res → V X G mc ms Q s pc lc st) : V X G mc ms Q x pc lc st := kk x h
