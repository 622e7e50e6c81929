set_option maxRecDepth 1000000 in
theorem loc_spl : ∀ j, j < 4230 → (match loc j with | none => true | some q => decide (q.1 < 32 ∧ spl3 q.1 q.2)) = true := by decide +kernel
