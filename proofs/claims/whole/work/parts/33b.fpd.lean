/-! floats: no NaN in the mean and in the share -/
section FPD
theorem fp_dsum {f : Fl} (hI : InvB f) {j : Nat} (hj : j < 12) : vf_n64 (FP.f2d (f (oM j 0)).toUInt32) ∧ vf_n64 (FP.dadd (dsum f j) (FP.f2d (f (oM j 0)).toUInt32)) := sorry
theorem fp_mean {f : Fl} (hI : InvB f) : vf_n64 (meanD f) ∧ okD (meanD f) := sorry
theorem fp_share {a b : Int32} (h : ¬ b = 0) : vf_n32 (FP.fdiv (FP.i2f a) (FP.i2f b)) := sorry
end FPD

