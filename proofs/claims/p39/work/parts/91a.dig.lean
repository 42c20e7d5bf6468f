/-! the digits' letters, as the premises give them -/
section DIG1
abbrev lwG : Cond := Jvm.Cond.and given_1 narrow_1
theorem lw_ones : ∀ j, j < 100 → (flatC lwG)[26 + j]? = some (Cond.eq (.elem (.static "java/lang/Integer" "DigitOnes" "[B") (.int (Int32.ofNat j))) (.int (nI (48 + j % 10)))) := by decide +kernel
end DIG1
