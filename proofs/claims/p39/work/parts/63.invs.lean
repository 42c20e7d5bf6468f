/-! what holds of every state that a run comes to */ -/
section INVS2
variable {S : St}
theorem push_S {g : Fl} (h : InvS S) (hg : InvA g) : InvS (push S g) := by
  obtain ⟨a, b, c, d, e, f⟩ := h
  refine ⟨hg, b, fun i hi => ?_, ?_, e, f⟩
  · show InvA (pH S.2.2.1 S.2.2.2.1 S.1 i)
    have hi : i < pC S.2.2.2.1 := hi
    unfold pH
    unfold pC at hi
    by_cases z : S.2.2.2.1 < 8
    · rw [if_pos z] at hi ⊢
      by_cases y : i = S.2.2.2.1
      · rw [if_pos y]
        exact a
      · rw [if_neg y]
        exact c i (by omega)
    · rw [if_neg z] at hi ⊢
      by_cases y : i = 7
      · rw [if_pos y]
        exact a
      · rw [if_neg y]
        exact c (i + 1) (by omega)
  · show pC S.2.2.2.1 ≤ 8
    unfold pC
    split <;> omega
theorem refu_S {z : Int32 × Int32} (h : InvS S) (hz : codeOk z) : InvS (refu S z) := ⟨h.1, h.2.1, h.2.2.1, h.2.2.2.1, hz, h.2.2.2.2.2⟩
theorem s_set {w v : Int32} (h : InvS S) : InvS (sp_set S w v).2.2 := by
  unfold sp_set
  by_cases z : isSV w v
  · rw [if_pos z]
    exact push_S h (setF_A h.1 z)
  · rw [if_neg z]
    exact h
theorem s_drill {a : Int32} (h : InvS S) : InvS (sp_drill S a).2.2 := by
  unfold sp_drill
  by_cases z : isM a
  · rw [if_pos z]
    obtain ⟨j, hj, rfl⟩ := isM_nI z
    rw [nI_clamp (by omega)]
    exact push_S h (drF_A h.1 hj)
  · rw [if_neg z]
    exact h
theorem s_truck {kd w ax r : Int32} (h : InvS S) : InvS (sp_truck S kd w ax r).2.2 := by
  unfold sp_truck
  by_cases z : isR r
  rotate_left
  · rw [if_neg z]; exact h
  rw [if_pos z]
  obtain ⟨a, ha, rfl⟩ := in_nI z.1 z.2 (by decide)
  by_cases y : isTk kd w ax
  rotate_left
  · rw [if_neg y]; exact h
  rw [if_pos y, nI_clamp (by omega)]
  by_cases x : freeF S.1 a < 0
  · rw [if_pos x]
    exact refu_S h (Or.inr ⟨2, a, by decide, by decide, by omega, rfl⟩)
  rw [if_neg x]
  by_cases u : kd = nI a
  rotate_left
  · rw [if_neg u]
    exact refu_S h (Or.inr ⟨3, a, by decide, by decide, by omega, rfl⟩)
  rw [if_pos u]
  obtain ⟨k, hk, ek, e0⟩ := free_of x
  rw [ek, nI_clamp (by omega)]
  refine push_S h (trF_A h.1 (by omega) e0 ?_)
  rw [show (a * 5 + k) / 5 = a by omega]
  obtain ⟨-, ⟨w1, w2⟩, ⟨x1, x2⟩⟩ := y
  obtain ⟨wn, hw, rfl⟩ : ∃ n, n < 61 ∧ w = nI n := in_nI (Int32.le_trans (by decide) w1) (Int32.lt_of_le_of_lt w2 (by decide)) (by decide)
  obtain ⟨xn, hx, rfl⟩ : ∃ n, n < 7 ∧ ax = nI n := in_nI (Int32.le_trans (by decide) x1) (Int32.lt_of_le_of_lt x2 (by decide)) (by decide)
  refine ⟨?_, ⟨wn, (nI_leI (by decide) (by omega)).mp w1, by omega, rfl⟩, ⟨xn, (nI_leI (by decide) (by omega)).mp x1, by omega, rfl⟩⟩
  rcases (show a = 0 ∨ a = 1 by omega) with rfl | rfl
  · exact Or.inl rfl
  · exact Or.inr rfl
theorem s_convoy {g : Int32} (h : InvS S) : InvS (sp_convoy S g).2.2 := by
  unfold sp_convoy
  by_cases z : nI 1 ≤ g ∧ g ≤ nI 3
  rotate_left
  · rw [if_neg z]; exact h
  rw [if_pos z]
  by_cases y : cnt S.1 < 4
  · rw [if_pos y]
    exact push_S h (cvF_A h.1 y z)
  · rw [if_neg y]
    exact refu_S h (Or.inr ⟨1, 4, by decide, by decide, by decide, rfl⟩)
theorem s_join {c r p : Int32} (h : InvS S) : InvS (sp_join S c r p).2.2 := by
  have h44 := h.1.1.1.2
  unfold sp_join
  by_cases z : isC S.1 c ∧ isPl r p
  rotate_left
  · rw [if_neg z]; exact h
  rw [if_pos z]
  obtain ⟨c, hc, rfl⟩ := isC_of h.1.1 z.1
  obtain ⟨a, ha, rfl⟩ := in_nI z.2.1.1 z.2.1.2 (by decide)
  obtain ⟨k, hk, rfl⟩ := in_nI z.2.2.1 z.2.2.2 (by decide)
  rw [nI_clamp (by omega), nI_clamp (by omega), nI_clamp (by omega)]
  by_cases y : S.1 (oR (a * 5 + k)) = 0
  · rw [if_pos y]; exact h
  rw [if_neg y]
  by_cases x : joinO S.1 c = (nI 0, nI 0)
  · rw [if_pos x]
    exact push_S h (jnF_A h.1 hc (by omega) y (join_0 x).1 (join_0 x).2)
  · rw [if_neg x]
    exact refu_S h (join_code S.1 (by omega))
theorem s_start {c : Int32} (h : InvS S) : InvS (sp_start S c).2.2 := by
  have h44 := h.1.1.1.2
  unfold sp_start
  by_cases z : isC S.1 c
  rotate_left
  · rw [if_neg z]; exact h
  rw [if_pos z]
  obtain ⟨c, hc, rfl⟩ := isC_of h.1.1 z
  rw [nI_clamp (by omega)]
  by_cases x : startO S.1 c = (nI 0, nI 0)
  · rw [if_pos x]
    exact push_S h (startF_A h.1 hc x)
  · rw [if_neg x]
    exact refu_S h (start_code S.1 (by omega))
theorem s_roll {c : Int32} (h : InvS S) : InvS (sp_roll S c).2.2 := by
  have h44 := h.1.1.1.2
  unfold sp_roll
  by_cases z : isC S.1 c
  rotate_left
  · rw [if_neg z]; exact h
  rw [if_pos z]
  obtain ⟨c, hc, rfl⟩ := isC_of h.1.1 z
  rw [nI_clamp (by omega)]
  by_cases x : rollO S.1 c = (nI 0, nI 0)
  · rw [if_pos x]
    exact push_S h (advF_A h.1 hc x)
  · rw [if_neg x]
    exact refu_S h (roll_code S.1 (by omega))
theorem s_pass {d : Int32} (h : InvS S) : InvS (sp_pass S d).2.2 := by
  unfold sp_pass
  by_cases z : isDay d
  · rw [if_pos z]
    exact push_S h (passF_A h.1)
  · rw [if_neg z]
    exact h
theorem s_append {c : Int32} (h : InvS S) : InvS (sp_append S c).2.2 := by
  unfold sp_append
  by_cases z : S.2.2.2.2.2.1 < 60
  · rw [if_pos z]
    exact ⟨h.1, h.2.1, h.2.2.1, h.2.2.2.1, h.2.2.2.2.1, z⟩
  · rw [if_neg z]
    exact h
theorem s_undo (h : InvS S) : InvS (sp_undo S).2.2 := by
  unfold sp_undo
  by_cases z : S.2.2.2.1 = 0
  · rw [if_pos z]
    exact h
  · rw [if_neg z]
    obtain ⟨a, b, c, d, e, f⟩ := h
    exact ⟨c _ (by omega), b, fun i hi => c i (by have : i < S.2.2.2.1 - 1 := hi; omega), by show S.2.2.2.1 - 1 ≤ 8; omega, e, f⟩
theorem s_save (h : InvS S) : InvS (sp_save S).2.2 := ⟨h.1, fun g hg => by cases hg; exact h.1, h.2.2⟩
theorem s_restore (h : InvS S) : InvS (sp_restore S).2.2 := by
  unfold sp_restore
  cases hs : S.2.1 with
  | none => exact h
  | some g =>
    have hg := h.2.1 g hs
    exact ⟨hg, fun g' hg' => by cases hg'; exact hg, fun i hi => absurd hi (Nat.not_lt_zero i), Nat.zero_le 8, h.2.2.2.2⟩
theorem rdS_S (h : InvS S) : InvS (rdS S) := ⟨h.1, h.2.1, h.2.2.1, h.2.2.2.1, h.2.2.2.2.1, Nat.zero_le _⟩
theorem rowsK_A {tx : Nat → Int32} {n kk : Nat} (h : InvA S.1) (hl : ∀ k, k ≤ kk → isL (ordK tx n k).1) : ∀ {i}, i ≤ kk + 1 → (∀ j, j < i → exO (rowsK S.1 tx n j) (ordK tx n j) = nI 0) → InvA (rowsK S.1 tx n i)
  | 0, _, _ => h
  | i + 1, hi, he => exF_A (rowsK_A h hl (i := i) (by omega) (fun j hj => he j (by omega))) (hl i (by omega)) (he i (by omega))
theorem s_read (h : InvS S) : InvS (sp_read S).2.2 := by
  have hr := rdS_S h
  unfold sp_read
  by_cases hf : fine S.2.2.2.2.1 S.2.2.2.2.2.1 (kkF S.2.2.2.2.1 S.2.2.2.2.2.1)
  rotate_left
  · rw [if_neg hf]; exact hr
  rw [if_pos hf]
  have hl : ∀ k, k ≤ kkF S.2.2.2.2.1 S.2.2.2.2.2.1 → isL (ordK S.2.2.2.2.1 S.2.2.2.2.2.1 k).1 := by
    intro k hk
    refine oK_let ?_
    rcases Nat.lt_or_ge k (kkF S.2.2.2.2.1 S.2.2.2.2.2.1) with y | y
    · have := fa_first_no (fun k => cb (¬ more S.2.2.2.2.1 S.2.2.2.2.2.1 k)) 30 k y
      have hm : more S.2.2.2.2.1 S.2.2.2.2.2.1 k := Classical.byContradiction fun q => by
        have t : cb (¬ more S.2.2.2.2.1 S.2.2.2.2.2.1 k) = true := cb_t q
        rw [t] at this
        cases this
      exact hm.1
    · rw [show k = kkF S.2.2.2.2.1 S.2.2.2.2.2.1 by omega]
      exact hf.1
  have hno : ∀ j, j < badK S.1 S.2.2.2.2.1 S.2.2.2.2.2.1 → exO (rowsK S.1 S.2.2.2.2.1 S.2.2.2.2.2.1 j) (ordK S.2.2.2.2.1 S.2.2.2.2.2.1 j) = nI 0 := by
    intro j hj
    have := fa_first_no (fun k => cb (exO (rowsK S.1 S.2.2.2.2.1 S.2.2.2.2.2.1 k) (ordK S.2.2.2.2.1 S.2.2.2.2.2.1 k) ≠ nI 0)) (kkF S.2.2.2.2.1 S.2.2.2.2.2.1 + 1) j hj
    exact Classical.byContradiction fun q => by
      have t : cb (exO (rowsK S.1 S.2.2.2.2.1 S.2.2.2.2.2.1 j) (ordK S.2.2.2.2.1 S.2.2.2.2.2.1 j) ≠ nI 0) = true := cb_t q
      rw [t] at this
      cases this
  have hle : badK S.1 S.2.2.2.2.1 S.2.2.2.2.2.1 ≤ kkF S.2.2.2.2.1 S.2.2.2.2.2.1 + 1 := fa_first_le _ _
  by_cases hb : badK S.1 S.2.2.2.2.1 S.2.2.2.2.2.1 < kkF S.2.2.2.2.1 S.2.2.2.2.2.1 + 1
  · rw [if_pos hb]
    have hne : exO (rowsK S.1 S.2.2.2.2.1 S.2.2.2.2.2.1 (badK S.1 S.2.2.2.2.1 S.2.2.2.2.2.1)) (ordK S.2.2.2.2.1 S.2.2.2.2.2.1 (badK S.1 S.2.2.2.2.1 S.2.2.2.2.2.1)) ≠ nI 0 := cb_iff.mp (fa_first_yes (fun k => cb (exO (rowsK S.1 S.2.2.2.2.1 S.2.2.2.2.2.1 k) (ordK S.2.2.2.2.1 S.2.2.2.2.2.1 k) ≠ nI 0)) _ hb)
    have hA := rowsK_A (S := S) h.1 hl (i := badK S.1 S.2.2.2.2.1 S.2.2.2.2.2.1) hle hno
    rcases ex_ref hA.1 (hl _ (by omega)) hne with y | ⟨y, y1, -⟩
    · rw [if_pos y]; exact hr
    · rw [if_neg (fun q => (Int32.lt_irrefl (Int32.lt_trans q y)).elim)]
      exact refu_S hr y1
  · rw [if_neg hb]
    exact push_S hr (rowsK_A (S := S) h.1 hl (i := kkF S.2.2.2.2.1 S.2.2.2.2.2.1 + 1) (Nat.le_refl _) (fun j hj => hno j (by omega)))
end INVS2

