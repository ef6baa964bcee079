/-! THE LAW'S START: what the statement gives, in the pure world's words -/
def ztm (i : Nat) : Term := Term.string (zstr.getD i ("", 0, "", 0)).1 (zstr.getD i ("", 0, "", 0)).2.1
abbrev zflat : List Cond := flatC (Jvm.Cond.and given_1 narrow_1)
theorem zs_len : ∀ i, i < znS → zlen.getD i 0 < 2 ^ 31 := by decide +kernel
theorem zs_ex : ∀ i, i < znS → Cond.exactly (ztm i) "java/lang/String" ∈ zflat := by decide +kernel
theorem zs_co : ∀ i, i < znS → Cond.eq (.field (ztm i) "java/lang/String" "coder" "B") (.int 0) ∈ zflat := by decide +kernel
theorem zs_ar : ∀ i, i < znS → Cond.arrayOf (.field (ztm i) "java/lang/String" "value" "[B") .byte ∈ zflat := by decide +kernel
theorem zs_le : ∀ i, i < znS → Cond.eq (.length (.field (ztm i) "java/lang/String" "value" "[B")) (.int (Int32.ofNat (zlen.getD i 0))) ∈ zflat := by decide +kernel
theorem zs_el : ∀ i, i < znS → ∀ j, j < zlen.getD i 0 → Cond.eq (.elem (.field (ztm i) "java/lang/String" "value" "[B") (.int (Int32.ofNat j))) (.int ((zbyt.getD i []).getD j 0)) ∈ zflat := by decide +kernel
