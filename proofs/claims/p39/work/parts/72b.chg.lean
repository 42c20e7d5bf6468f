/-! the law's changing calls, case by case -/
section LCHG
variable {E : gE} {sh : Sh} {sz : Nat} {V : Vl} {x : Nat} {S : St} {A : La}
theorem pH_top (H : Nat → Fl) (cn : Nat) (f : Fl) : pH H cn f (pC cn - 1) = f := by
  unfold pH pC
  by_cases h : cn < 8
  · rw [if_pos h, if_pos h, if_pos (by omega)]
  · rw [if_neg h, if_neg h, if_pos (by omega)]
theorem pC_pos (cn : Nat) : pC cn ≠ 0 := by
  unfold pC
  split <;> omega
/-- behind an undoing -/
def undS (S : St) : St := (S.2.2.1 (S.2.2.2.1 - 1), S.2.1, S.2.2.1, S.2.2.2.1 - 1, S.2.2.2.2)
theorem undS_push (g : Fl) : (undS (push S g)).1 = S.1 := pH_top _ _ _
theorem l_roll_ok {c : Nat} (hA : LW x S A sh sz V) (hc : c < cnt S.1) (h0 : rollO S.1 c = (nI 0, nI 0)) : MCH E YL_roll [(0, 5, 6, 20), (0, 5, 9, 34)] [.ref x, .int (nI c)] sh sz V (PLs x A sz (push S (advF S.1 c)) (.int (nI (onR (advF S.1 c) c)))) := by
  have h := w_roll (E := E) (c := (nI c)) hA (s_roll hA.2.1)
  have e : sp_roll S (nI c) = (0, .int (nI (onR (advF S.1 c) c)), push S (advF S.1 c)) := by
    have := hA.sB.1.2
    unfold sp_roll
    rw [if_pos (isC_n hA.sB hc), nI_clamp (by omega), if_pos h0]
  rw [e] at h
  exact h
theorem l_roll_no {c : Nat} (hA : LW x S A sh sz V) (hc : c < cnt S.1) (h0 : ¬ rollO S.1 c = (nI 0, nI 0)) : MCH E YL_roll [(0, 5, 6, 20), (0, 5, 9, 34)] [.ref x, .int (nI c)] sh sz V (PLs x A sz (refu S (rollO S.1 c)) (.int (-2))) := by
  have h := w_roll (E := E) (c := (nI c)) hA (s_roll hA.2.1)
  have e : sp_roll S (nI c) = (2, .int (nI 0), refu S (rollO S.1 c)) := by
    have := hA.sB.1.2
    unfold sp_roll
    rw [if_pos (isC_n hA.sB hc), nI_clamp (by omega), if_neg h0]
  rw [e] at h
  exact h
theorem l_start_ok {c : Nat} (hA : LW x S A sh sz V) (hc : c < cnt S.1) (h0 : startO S.1 c = (nI 0, nI 0)) : MCH E YL_start [(0, 5, 6, 20), (0, 5, 9, 34)] [.ref x, .int (nI c)] sh sz V (PLs x A sz (push S (startF S.1 c)) (.int (nI (ncv S.1 c)))) := by
  have h := w_start (E := E) (c := (nI c)) hA (s_start hA.2.1)
  have e : sp_start S (nI c) = (0, .int (nI (ncv S.1 c)), push S (startF S.1 c)) := by
    have := hA.sB.1.2
    unfold sp_start
    rw [if_pos (isC_n hA.sB hc), nI_clamp (by omega), if_pos h0]
  rw [e] at h
  exact h
theorem l_start_no {c : Nat} (hA : LW x S A sh sz V) (hc : c < cnt S.1) (h0 : ¬ startO S.1 c = (nI 0, nI 0)) : MCH E YL_start [(0, 5, 6, 20), (0, 5, 9, 34)] [.ref x, .int (nI c)] sh sz V (PLs x A sz (refu S (startO S.1 c)) (.int (-2))) := by
  have h := w_start (E := E) (c := (nI c)) hA (s_start hA.2.1)
  have e : sp_start S (nI c) = (2, .int (nI 0), refu S (startO S.1 c)) := by
    have := hA.sB.1.2
    unfold sp_start
    rw [if_pos (isC_n hA.sB hc), nI_clamp (by omega), if_neg h0]
  rw [e] at h
  exact h
theorem l_undo (hA : LW x S A sh sz V) (h0 : ¬ S.2.2.2.1 = 0) : MCH E YL_undo [(0, 4, 5, 88)] [.ref x] sh sz V (PLs x A sz (undS S) (.int (nI (S.2.2.2.1 - 1)))) := by
  have h := w_undo (E := E)  hA (s_undo hA.2.1)
  have e : sp_undo S = (0, .int (nI (S.2.2.2.1 - 1)), undS S) := by
    unfold sp_undo
    rw [if_neg h0]
    rfl
  rw [e] at h
  exact h
theorem l_pass {d : Nat} (hA : LW x S A sh sz V) (h1 : 1 ≤ d) (h2 : d ≤ 30) : MCH E YL_pass [(0, 5, 6, 14)] [.ref x, .int (nI d)] sh sz V (PLs x A sz (push S (passF S.1 d)) (.int (goodN S.1 - goodN (passF S.1 d)))) := by
  have h := w_pass (E := E) (d := (nI d)) hA (s_pass hA.2.1)
  have e : sp_pass S (nI d) = (0, .int (goodN S.1 - goodN (passF S.1 d)), push S (passF S.1 d)) := by
    unfold sp_pass
    rw [if_pos ⟨nI_le h1 (by omega), nI_le h2 (by decide)⟩, nI_clamp (by omega)]
  rw [e] at h
  exact h
theorem l_set {w : Nat} {v : Int32} (hA : LW x S A sh sz V) (hw : w < 3) (hv : isSV (nI w) v) : MCH E YL_set [(0, 6, 7, 14)] [.ref x, .int (nI w), .int v] sh sz V (PLs x A sz (push S (upd S.1 (5 + w) v)) (.int (S.1 (5 + w)))) := by
  have h := w_set (E := E) (w := (nI w)) (v := v) hA (s_set hA.2.1)
  have e : sp_set S (nI w) v = (0, .int (S.1 (5 + w)), push S (upd S.1 (5 + w) v)) := by
    unfold sp_set
    rw [if_pos hv, nI_clamp (by omega)]
  rw [e] at h
  exact h
theorem l_drill {j : Nat} (hA : LW x S A sh sz V) (hj : j < 12) : MCH E YL_drill [(0, 5, 6, 20)] [.ref x, .int (nI j)] sh sz V (PLs x A sz (push S (drF S.1 j)) (.int (S.1 (oM j 0)))) := by
  have h := w_drill (E := E) (a := (nI j)) hA (s_drill hA.2.1)
  have e : sp_drill S (nI j) = (0, .int (S.1 (oM j 0)), push S (drF S.1 j)) := by
    unfold sp_drill
    rw [if_pos (isM_n hj), nI_clamp (by omega)]
  rw [e] at h
  exact h
theorem l_convoy {g : Nat} (hA : LW x S A sh sz V) (h1 : 1 ≤ g) (h2 : g ≤ 3) (h4 : cnt S.1 < 4) : MCH E YL_convoy [(0, 5, 6, 14), (0, 5, 9, 34)] [.ref x, .int (nI g)] sh sz V (PLs x A sz (push S (cvF S.1 (nI g))) (.int (nI (cnt S.1)))) := by
  have h := w_convoy (E := E) (g := (nI g)) hA (s_convoy hA.2.1)
  have e : sp_convoy S (nI g) = (0, .int (nI (cnt S.1)), push S (cvF S.1 (nI g))) := by
    unfold sp_convoy
    rw [if_pos ⟨nI_le h1 (by omega), nI_le h2 (by decide)⟩, if_pos h4]
  rw [e] at h
  exact h
end LCHG

