section DIG2
theorem lw_tens : ∀ j, j < 100 → (flatC lwG)[129 + j]? = some (Cond.eq (.elem (.static "java/lang/Integer" "DigitTens" "[B") (.int (Int32.ofNat j))) (.int (nI (48 + j / 10)))) := by decide +kernel
end DIG2
