theorem zs_n2 : ∀ j, j < 11 → ∀ i, i < j → 8 ≤ j → Cond.not (Cond.eq (ztm i) (ztm j)) ∈ zflat := by decide +kernel
