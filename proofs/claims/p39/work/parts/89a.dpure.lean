/-! what the law draws: purely, and its calls -/
section LPURE5
variable {E : gE} {sh : Sh} {sz : Nat} {V : Vl} {x : Nat} {f g : Fl} {S : St} {A : La} {N M c k n : Nat}
def DI (N : Nat) (S : St) : Prop := S.2.2.2.2.2.1 = 0 ∧ InvD N S.1 ∧ InvW S.1
theorem DI.push (h : DI N S) (hD : InvD M g) (hW : InvW g) : DI M (push S g) := ⟨h.1, hD, hW⟩
theorem DI.le (h : DI N S) (hN : N ≤ M) : DI M S := ⟨h.1, h.2.1.le hN, h.2.2⟩
theorem way_48 {ld : Int32} (h : way f c ld ≠ (nI 0, nI 0)) : ∃ a, 4 ≤ a ∧ a ≤ 8 ∧ (way f c ld).1 = nI a := by
  unfold way at h ⊢
  by_cases h1 : fa_first (fun k => cb (bk f c ld k)) (ncv f c) < ncv f c
  · rw [if_pos h1]
    exact ⟨7, by decide, by decide, rfl⟩
  rw [if_neg h1] at h ⊢
  by_cases h2 : fa_first (fun k => cb (wk f c ld k)) (ncv f c) < ncv f c
  · rw [if_pos h2]
    exact ⟨8, by decide, by decide, rfl⟩
  rw [if_neg h2] at h
  exact absurd rfl h
theorem roll_48 (h : rollO f c ≠ (nI 0, nI 0)) : ∃ a, 4 ≤ a ∧ a ≤ 8 ∧ (rollO f c).1 = nI a := by
  unfold rollO at h ⊢
  by_cases h1 : ¬ 0 ≤ f (oC c 2)
  · rw [if_pos h1]
    exact ⟨4, by decide, by decide, rfl⟩
  rw [if_neg h1] at h ⊢
  by_cases h2 : dnF f c
  · rw [if_pos h2]
    exact ⟨6, by decide, by decide, rfl⟩
  rw [if_neg h2] at h ⊢
  exact way_48 h
theorem start_48 (h : startO f c ≠ (nI 0, nI 0)) : ∃ a, 4 ≤ a ∧ a ≤ 8 ∧ (startO f c).1 = nI a := by
  unfold startO at h ⊢
  by_cases h1 : 0 ≤ f (oC c 2)
  · rw [if_pos h1]
    exact ⟨4, by decide, by decide, rfl⟩
  rw [if_neg h1] at h ⊢
  by_cases h2 : ncv f c = 0
  · rw [if_pos h2]
    exact ⟨5, by decide, by decide, rfl⟩
  rw [if_neg h2] at h ⊢
  exact way_48 h
theorem goodN_0 (h : ∀ j, j < 12 → f (oM j 4) = -1) : goodN f = nI 0 := by
  have e : goodN f = sI (fun _ => nI 0) 12 := sI_cong fun j hj => bgd_f (fun q => by
    have q1 := q.1
    rw [h j hj] at q1
    exact absurd q1 (by decide))
  rw [e]
  decide
theorem f0_D : InvD 0 f0 := ⟨⟨0, Nat.le_refl _, by decide +kernel, fun j hj => Or.inl (f0_M hj).2.2.2.2.1⟩, 7, by decide, by decide +kernel⟩
theorem f0_W : InvW f0 := by
  unfold InvW
  rw [f0_cnt]
  decide +kernel
theorem free_0 {a : Nat} (h : f (oR (a * 5)) = 0) : freeF f a = nI 0 := fstI_eq (i := 0) (by decide) (decide_eq_true h) (fun k hk => absurd hk (Nat.not_lt_zero k))
theorem l_truck_ok {kd wt ax : Nat} (hA : LW x S A sh sz V) (hk : kd < 2) (w1 : 5 ≤ wt) (w2 : wt ≤ 60) (x1 : 2 ≤ ax) (x2 : ax ≤ 6) (h0 : S.1 (oR (kd * 5)) = 0) : MCH E YL_truck [(0, 9, 10, 20), (0, 9, 14, 14), (0, 9, 19, 34)] [.ref x, .int (nI kd), .int (nI wt), .int (nI ax), .int (nI kd)] sh sz V (PLs x A sz (push S (trF S.1 (kd * 5) (nI wt) (nI ax))) (.int (nI 0))) := by
  have h := w_truck (E := E) (kd := nI kd) (w := nI wt) (ax := nI ax) (r := nI kd) hA (s_truck hA.2.1)
  have e : sp_truck S (nI kd) (nI wt) (nI ax) (nI kd) = (0, .int (nI 0), push S (trF S.1 (kd * 5) (nI wt) (nI ax))) := by
    unfold sp_truck
    rw [if_pos ⟨nI_pos' (by omega), nI_lt hk (by decide)⟩, if_pos ⟨⟨nI_pos' (by omega), nI_le (by omega) (by decide)⟩, ⟨nI_le w1 (by omega), nI_le w2 (by decide)⟩, nI_le x1 (by omega), nI_le x2 (by decide)⟩, nI_clamp (by omega), free_0 h0, if_neg (by decide), if_pos rfl]
    rfl
  rw [e] at h
  exact h
theorem l_join_ok {kd : Nat} (hA : LW x S A sh sz V) (hc : c < cnt S.1) (hk : kd < 2) (h0 : ¬ S.1 (oR (kd * 5)) = 0) (hj : joinO S.1 c = (nI 0, nI 0)) : MCH E YL_join [(0, 7, 8, 20), (0, 7, 12, 25), (0, 7, 17, 34)] [.ref x, .int (nI c), .int (nI kd), .int (nI 0)] sh sz V (PLs x A sz (push S (jnF S.1 c (kd * 5))) (.int (nI (ncv S.1 c + 1)))) := by
  have h := w_join (E := E) (c := nI c) (r := nI kd) (p := nI 0) hA (s_join hA.2.1)
  have h44 := hA.sB.1.2
  have e : sp_join S (nI c) (nI kd) (nI 0) = (0, .int (nI (ncv S.1 c + 1)), push S (jnF S.1 c (kd * 5))) := by
    unfold sp_join
    rw [if_pos ⟨isC_n hA.sB hc, ⟨nI_pos' (by omega), nI_lt hk (by decide)⟩, by decide, by decide⟩, nI_clamp (by omega), nI_clamp (by omega), nI_clamp (by omega), Nat.add_zero, if_neg h0, if_pos hj]
  rw [e] at h
  exact h
/-- convoys that wait, empty rows -/
def CV (n : Nat) (S : St) : Prop := DI 30 S ∧ cnt S.1 = n ∧ (∀ k, k < 10 → S.1 (oR k) = 0) ∧ ∀ d, d < n → S.1 (oC d 2) = -1
theorem CV.conv {y : Int32} (hI : InvB S.1) (h : CV n S) (hn : n < 4) : CV (n + 1) (push S (cvF S.1 y)) ∧ ncv (push S (cvF S.1 y)).1 n = 0 := by
  obtain ⟨h1, h2, h3, h4⟩ := h
  subst h2
  refine ⟨⟨h1.push (h1.2.1.sm sd_cv) (W_cv hI h1.2.2 hn), cvF_cnt hn, fun k hk => ?_, fun d hd => ?_⟩, cvF_ncv⟩
  · show cvF S.1 y (oR k) = 0
    rw [cvF_out (by unfold oR; omega) (by unfold oR; omega)]
    exact h3 k hk
  · show cvF S.1 y (oC d 2) = -1
    by_cases z : d = cnt S.1
    · rw [z, cvF_in (by decide)]
      rfl
    · rw [cvF_out (by unfold oC; omega) (by unfold oC; omega)]
      exact h4 d (by omega)
theorem trF_cnt {k : Nat} {w ax : Int32} : cnt (trF f k w ax) = cnt f := by
  unfold cnt
  rw [trF_out (by unfold oR; omega) (by unfold oR; omega) (by decide)]
theorem trF_C {k c i : Nat} {w ax : Int32} (hk : k < 10) : trF f k w ax (oC c i) = f (oC c i) := trF_out (by unfold oR oC; omega) (by unfold oR oC; omega) (by unfold oC; omega)
theorem trF_at {k : Nat} {w ax : Int32} : trF f k w ax (oR k) = w := by
  unfold trF
  rw [pk_un (by unfold oR; omega), pk_un (by omega), pk_us]
theorem CV.tj {w ax : Int32} (h : CV n S) (hc : c < n) (hk : k < 10) (hn : ncv S.1 c < 4) (hI : InvB (trF S.1 k w ax)) : CV n (push (push S (trF S.1 k w ax)) (jnF (trF S.1 k w ax) c k)) ∧ ncv (jnF (trF S.1 k w ax) c k) c = ncv S.1 c + 1 := by
  obtain ⟨h1, h2, h3, h4⟩ := h
  have en : ncv (trF S.1 k w ax) c = ncv S.1 c := by
    unfold ncv
    rw [trF_C hk]
  have hc2 : c < cnt (trF S.1 k w ax) := by rw [trF_cnt]; omega
  have hn2 : ncv (trF S.1 k w ax) c < 4 := by omega
  have i1 := (hI.cv hc2).2.1
  have hW := W_tr (w := w) (ax := ax) h1.2.2 hk (h3 k hk)
  refine ⟨⟨⟨h1.1, (h1.2.1.sm sd_tr).sm sd_jn, W_jn hI hW hc2 hk hn2⟩, ?_, fun j hj => ?_, fun d hd => ?_⟩, ?_⟩
  · show cnt (jnF (trF S.1 k w ax) c k) = n
    rw [jnF_cnt hn2, trF_cnt]
    exact h2
  · show jnF (trF S.1 k w ax) c k (oR j) = 0
    by_cases z : j = k
    · rw [z]
      unfold jnF
      rw [pk_un (by omega), pk_us]
      rfl
    · rw [jnF_out hn2 (by unfold oR; omega) (by unfold oR; omega) (by unfold oR; omega), trF_out (by unfold oR; omega) (by unfold oR; omega) (by unfold oR; omega)]
      exact h3 j hj
  · show jnF (trF S.1 k w ax) c k (oC d 2) = -1
    by_cases z : d = c
    · rw [z, jnF_c hk (by decide) (by omega) (by omega) (by omega), trF_C hk]
      exact h4 c hc
    · rw [jnF_d hn2 hk z (by decide), trF_C hk]
      exact h4 d hd
  · rw [jnF_ncv hk i1 hn2, en]
theorem CV.jo {w ax : Int32} (h : CV n S) (hc : c < n) (hk : k < 10) (hn : ncv S.1 c < 4) : joinO (trF S.1 k w ax) c = (nI 0, nI 0) := by
  have en : ncv (trF S.1 k w ax) c = ncv S.1 c := by
    unfold ncv
    rw [trF_C hk]
  unfold joinO
  rw [trF_C hk, h.2.2.2 c hc, if_neg (by decide), en, if_pos hn]
theorem W_start (hI : InvB f) (h : InvW f) : InvW (startF f c) := by
  have lo : ∀ i, (i = 3 ∨ (80 ≤ i ∧ i < 100)) → startF f c i = f i := fun i hi => (advN_out (by omega) (by omega)).trans ((pk_un (by unfold oC; omega)).trans (u3_out (by unfold oC; omega)))
  refine h.sm (lo 3 (by omega)) (fun k hk => lo _ (by unfold oR; omega)) startF_cnt (fun d hd => ?_)
  have := (hI.cv hd).2.2.1
  unfold wgF
  rw [startF_ncv]
  refine sI_cong fun k hk => ?_
  show startF f c (oC d (5 + 3 * k)) = f (oC d (5 + 3 * k))
  exact startF_c (Or.inr (by omega)) (by omega)
/-- what the law draws -/
def Pdr (x z : Nat) : gP := fun o sh' sz' V' => z ≤ sz' ∧ ∃ S, LW x S [] sh' sz' V' ∧ DI 1000 S ∧ o = .inl (some (.ref x))
end LPURE5

