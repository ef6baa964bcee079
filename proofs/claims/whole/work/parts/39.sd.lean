theorem zs_n3 : ∀ j, j < 14 → ∀ i, i < j → 11 ≤ j → Cond.not (Cond.eq (ztm i) (ztm j)) ∈ zflat := by decide +kernel
