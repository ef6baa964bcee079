theorem zs_n1 : ∀ j, j < 8 → ∀ i, i < j → Cond.not (Cond.eq (ztm i) (ztm j)) ∈ zflat := by decide +kernel
