/-! no such investor, no such loan -/
theorem notI3 {m : Mt} (hL : L3 m) : ¬ isI m 3 := fun z => by have := z.2; rw [hL.2.2.1] at this; exact absurd this (by decide)
theorem notL4 {m : Mt} (hL : L3 m) : ¬ isL m 4 := fun z => by have := z.2; rw [hL.2.2.2] at this; exact absurd this (by decide)
