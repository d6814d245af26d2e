noncomputable def tSA : Sta := fun _ => []
set_option maxRecDepth 100000 in
theorem xx_land : (goF tSA 3000 10 5 0 [some (.ref 0), none] [] [.inr (1, gDef 1)]).isSome = true := by decide +kernel
set_option maxRecDepth 100000 in
theorem xx_land2 : decide ((goF tSA 3000 10 5 0 [some (.ref 0), none] [] [.inr (1, gDef 1)]) = none) = false := by decide +kernel
