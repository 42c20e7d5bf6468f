/-! the bits of floats and doubles, as the class reckons them -/
section BITS
def okD (u : UInt64) : Prop := u.toNat < 9218868437227405312
variable {E : gE} {P : gP} {sh : Sh} {sz : Nat} {V : Vl}
theorem c_floatBits {u : UInt32} (h : okN u) (hP : P (.inl (some (.int u.toInt32))) sh sz V) : MC E YX6_floatBits [.float u] sh sz V P := sorry
theorem c_doubleBits {u : UInt64} (h : okD u) (hP : P (.inl (some (.long u.toInt64))) sh sz V) : MC E YX6_doubleBits [.double u] sh sz V P := sorry
end BITS

