/-! rows on sums and on where trucks are -/
section MORE
variable {f : Fl}
/-- sums -/
theorem sI_cong {p q : Nat → Int32} : ∀ {n : Nat}, (∀ k, k < n → p k = q k) → sI p n = sI q n
  | 0, _ => rfl
  | n + 1, h => by rw [sI_succ, sI_succ, sI_cong (fun k hk => h k (by omega)), h n (by omega)]
theorem sI_more {p : Nat → Int32} {n : Nat} : ∀ {d : Nat}, (∀ k, n ≤ k → p k = nI 0) → sI p (n + d) = sI p n
  | 0, _ => rfl
  | d + 1, h => by
    show sI p (n + d) + p (n + d) = _
    rw [sI_more h, h _ (by omega)]
    exact Int32.add_zero _
/-- what a truck of a convoy still waits to bring -/
def twF (f : Fl) (c k : Nat) : Int32 := if k < ncv f c then (if nI 12 ≤ mt (f (oC c 2)) (f (oC c 0)) k then nI 0 else (tkF f c k).2.1) else nI 0
theorem twF_4 {c : Nat} (h : ncv f c ≤ 4) : sI (twF f c) 4 = sI (twF f c) (ncv f c) := by
  have := sI_more (p := twF f c) (n := ncv f c) (d := 4 - ncv f c) (fun k hk => by unfold twF; rw [if_neg (by omega)])
  rw [show ncv f c + (4 - ncv f c) = 4 by omega] at this
  exact this
theorem mt_ns {ld g : Int32} {k : Nat} (h : ¬ 0 ≤ ld) : mt ld g k = -1 := if_neg h
theorem mt_st {ld g : Int32} {k : Nat} (h : 0 ≤ ld) : mt ld g k = mw ld g k := if_pos h
theorem mw_int {l g k : Nat} (hl : l < 1000) (hg : g < 1000) (hk : k < 1000) : (mw (nI l) (nI g) k).toInt = (l : Int) - k * (g + 1) := by
  unfold mw
  rw [nI_add, pk_mul]
  have h1 : k * (g + 1) ≤ 999 * 1000 := Nat.mul_le_mul (by omega) (by omega)
  rw [pk_sub_toInt (by omega) (by omega)]
  push_cast
  rfl
theorem iC.go {c : Nat} (h : iC f c) (h0 : 0 ≤ f (oC c 2)) : 1 ≤ ncv f c ∧ ∃ l, l ≤ 24 ∧ f (oC c 2) = nI l := by
  obtain ⟨-, -, -, st, -⟩ := h
  rcases st with ⟨a, b⟩ | ⟨a, b, c⟩
  · rw [b] at h0
    exact absurd h0 (by decide)
  · exact ⟨b, c⟩
end MORE
