/-! the first state -/
section START0
theorem f0_A : InvA f0 := by
  refine ⟨⟨⟨by decide +kernel, by rw [f0_cnt]; omega⟩, by decide +kernel, ⟨100, by decide, by decide +kernel⟩, fun j hj => ?_, fun k hk => Or.inl (f0_hi (by unfold oR; omega)), fun c hc => by rw [f0_cnt] at hc; omega⟩, fun c c2 k k2 m hc => by rw [f0_cnt] at hc; omega, ?_⟩
  · obtain ⟨e0, e1, e2, e3, e4, e5⟩ := f0_M hj
    rw [e0, e1, e2, e3]
    exact ⟨by unfold okI; decide, by unfold okI; decide, ⟨0, by omega, rfl⟩, 0, by omega, rfl⟩
  · rw [waitT_eq, f0_cnt]
    decide +kernel
theorem S0_S {H : Nat → Fl} {tx : Nat → Int32} : InvS (f0, none, H, 0, tx, 0, -1, (nI 0, nI 0)) := ⟨f0_A, fun g hg => (nomatch hg), fun i hi => absurd hi (Nat.not_lt_zero i), Nat.zero_le 8, Or.inl rfl, Nat.zero_le 60⟩
end START0

