theorem zRel_ok : zInit (fun _ _ => True) ∧ zSteps (fun _ _ => True) := sorry
