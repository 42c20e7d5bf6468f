/-! the reference reads its text -/
section REF21
variable {E : gE} {M : gM} {P : gP} {sh : Sh} {sz : Nat} {V V' V1 V2 : Vl} {cu su pc : Nat} {L : List (Option Value)} {rest : List Value} {m n k : Nat} {f g : Fl} {th r er : Int32} {S : St} {tx : Nat → Int32}
/-- behind a reading -/
def rdE (S : St) (er : Int32) : St := (S.1, S.2.1, S.2.2.1, S.2.2.2.1, S.2.2.2.2.1, 0, er, S.2.2.2.2.2.2.2)
theorem MB.read (h : MB sh V m f th r S) (ho : ∀ a, a ≠ m → a ≠ m + 7 → V' a = V a) (hj : ∀ j, j ≠ 12 → j ≠ 13 → j ≠ 14 → j ≠ 15 → j ≠ 17 → V' m j = V m j) (h12 : V' m 12 = .int (nI 0)) (h15 : V' m 15 = .int er) : MB sh V' m f th r (rdE S er) := by
  obtain ⟨hS, ⟨s, ⟨v1, v2, v3, v4, v5, v6, v8, v9, v11, v12, v15, v16⟩, a, b', c, d1, d2⟩, h7, h10⟩ := h
  refine ⟨hS.keep (hj 0 (by decide) (by decide) (by decide) (by decide) (by decide)) (ho _ (by omega) (by omega)), ⟨s, ⟨?_, ?_, ?_, ?_, ?_, ?_, ?_, ?_, ?_, h12, h15, ?_⟩, by rw [ho _ (by omega) (by omega)]; exact a, by rw [ho _ (by omega) (by omega)]; exact b', fun k hk => absurd hk (Nat.not_lt_zero k), d1, Nat.zero_le _⟩, (hj 7 (by decide) (by decide) (by decide) (by decide) (by decide)).trans h7, (hj 10 (by decide) (by decide) (by decide) (by decide) (by decide)).trans h10⟩
  all_goals rw [hj _ (by decide) (by decide) (by decide) (by decide) (by decide)]; assumption
set_option maxRecDepth 100000 in
theorem r_read (h : MS sh V m S th) (hI : InvB S.1) (hP : RI sh m sz V (sp_read S) P) : MC E YX7_read [.ref m] sh sz V P := by
  obtain ⟨r, hB⟩ := h
  have h0 := hB.1.1
  obtain ⟨⟨-, h1, h2, h3⟩, ⟨⟨s2, s3, s4, s5, s6, s7⟩, ⟨v1, v2, v3, v4, v5, v6, v8, v9, v11, v12, v15, v16⟩, ha, hp, ht, hc8, hl⟩, -⟩ := id hB
  refine MC.of RX7 "read" rfl (by decide +kernel) rfl 1 [_, none] rfl (Nat.le_of_ble_eq_true rfl) ?_
  show G E MX7_read _ _ _ _ _ _ _ _ _
  refine g_aload_n dX7_read_0 rfl ?_
  refine g_iconst (v := nI 0) dX7_read_1 (by decide) ?_
  refine g_put 9 rfl (by decide) inX7 tyX7 tyX7_ok nmX7 13 (by decide) fl_X7_217 rfl dX7_read_2 h0 rfl rfl ?_
  refine g_aload_n dX7_read_5 rfl ?_
  refine g_iconst (v := nI 0) dX7_read_6 (by decide) ?_
  refine g_put 9 rfl (by decide) inX7 tyX7 tyX7_ok nmX7 14 (by decide) fl_X7_214 rfl dX7_read_7 h0 rfl rfl ?_
  refine g_aload_n dX7_read_10 rfl ?_
  refine g_iconst (v := nI 0) dX7_read_11 (by decide) ?_
  refine g_put 9 rfl (by decide) inX7 tyX7 tyX7_ok nmX7 17 (by decide) fl_X7_234 rfl dX7_read_12 h0 rfl rfl ?_
  have hr0 : Ro V (hu (hu (hu V m 13 (.int (nI 0))) m 14 (.int (nI 0))) m 17 (.int (nI 0))) m := ((Ro.rf.fd (by omega)).fd (by omega)).fd (by omega)
  have u13 : hu (hu (hu V m 13 (.int (nI 0))) m 14 (.int (nI 0))) m 17 (.int (nI 0)) m 13 = .int (nI 0) := (hu_at_ne _ _ _ (by decide)).trans ((hu_at_ne _ _ _ (by decide)).trans (hu_at _ _ _ _))
  have u14 : hu (hu (hu V m 13 (.int (nI 0))) m 14 (.int (nI 0))) m 17 (.int (nI 0)) m 14 = .int (bi (false = true)) := (hu_at_ne _ _ _ (by decide)).trans (hu_at _ _ _ _)
  have u17 : hu (hu (hu V m 13 (.int (nI 0))) m 14 (.int (nI 0))) m 17 (.int (nI 0)) m 17 = .int (nI 0) := hu_at _ _ _ _
  generalize hu (hu (hu V m 13 (.int (nI 0))) m 14 (.int (nI 0))) m 17 (.int (nI 0)) = V1 at hr0 u13 u14 u17 ⊢
  have hT : ∀ {V2 p w}, Ro V V2 m → p ≤ S.2.2.2.2.2.1 → V2 m 13 = .int (nI p) → V2 m 14 = .int (bi (w = true)) → Tx sh V2 m S.2.2.2.2.2.1 S.2.2.2.2.1 p w := fun hr a b c => ⟨h0, s6, (hr.2 _ (by decide) (by decide) (by decide)).trans v11, (hr.2 _ (by decide) (by decide) (by decide)).trans v12, fun k hk => by rw [hr.1 _ (by omega) (by omega)]; exact ht k hk, hl, a, b, c⟩
  refine g_aload_n dX7_read_15 rfl ?_
  refine g_callVv (Y := YX7_readOrder) sv_X7_251 rfl yn_X7_readOrder 9 (by decide) rfl rfl dX7_read_16 (k_readOrder (P := pV (fun V2 => Ro V1 V2 m ∧ V2 m 13 = .int (nI (oK S.2.2.2.2.1 S.2.2.2.2.2.1 0).2.1) ∧ V2 m 14 = .int (bi ((!(oK S.2.2.2.2.1 S.2.2.2.2.2.1 0).1) = true)) ∧ ((oK S.2.2.2.2.1 S.2.2.2.2.2.1 0).1 = true → V2 m 17 = .int (nI (0 + 1)) ∧ Oq V2 m 0 (oK S.2.2.2.2.1 S.2.2.2.2.2.1 0).2.2 ∧ ∀ k, k < 4 * 0 → V2 (m + 7) k = V1 (m + 7) k)) sh sz) (hT hr0 (Nat.zero_le _) u13 u14) s7 ((hr0.2 16 (by decide) (by decide) (by decide)).trans v16) u17 (Nat.zero_le _) (fun V' a b c d => ⟨rfl, rfl, rfl, a, b, c, d⟩)) h0 rfl rfl rfl (Nat.le_of_ble_eq_true rfl) ⟨rfl, rfl⟩ (fun V2 q => ?_)
  obtain ⟨a1, a2, a3, a4⟩ := q
  -- behind the parsing
  have parsed : ∀ V2 kk, Ro V V2 m → lastO S.2.2.2.2.1 S.2.2.2.2.2.1 kk → V2 m 13 = .int (nI (oK S.2.2.2.2.1 S.2.2.2.2.2.1 (pK S.2.2.2.2.1 S.2.2.2.2.2.1 kk)).2.1) → V2 m 14 = .int (bi ((!(oK S.2.2.2.2.1 S.2.2.2.2.2.1 (pK S.2.2.2.2.1 S.2.2.2.2.2.1 kk)).1) = true)) → ((oK S.2.2.2.2.1 S.2.2.2.2.2.1 (pK S.2.2.2.2.1 S.2.2.2.2.2.1 kk)).1 = true → V2 m 17 = .int (nI (kk + 1)) ∧ ∀ j, j ≤ kk → Oq V2 m j (ordK S.2.2.2.2.1 S.2.2.2.2.2.1 j)) → G E MX7_read P sh sz V2 0 0 47 [some (.ref m), none] [] := by
    sorry
  suffices K : ∀ (d k : Nat), k + d = 21 → (∀ j, j < k → more S.2.2.2.2.1 S.2.2.2.2.2.1 j) → ∀ V2, Ro V V2 m → V2 m 13 = .int (nI (oK S.2.2.2.2.1 S.2.2.2.2.2.1 (pK S.2.2.2.2.1 S.2.2.2.2.2.1 k)).2.1) → V2 m 14 = .int (bi ((!(oK S.2.2.2.2.1 S.2.2.2.2.2.1 (pK S.2.2.2.2.1 S.2.2.2.2.2.1 k)).1) = true)) → ((oK S.2.2.2.2.1 S.2.2.2.2.2.1 (pK S.2.2.2.2.1 S.2.2.2.2.2.1 k)).1 = true → V2 m 17 = .int (nI (k + 1)) ∧ ∀ j, j ≤ k → Oq V2 m j (ordK S.2.2.2.2.1 S.2.2.2.2.2.1 j)) → G E MX7_read P sh sz V2 0 0 19 [some (.ref m), none] [] from K 21 0 rfl (fun j hj => absurd hj (Nat.not_lt_zero j)) V2 (hr0.trans a1) a2 a3 (fun q => ⟨(a4 q).1, fun j hj => by rw [show j = 0 by omega]; exact (a4 q).2.1⟩)
  clear a1 a2 a3 a4 V2
  intro d
  induction d with
  | zero =>
    intro k hk hm
    have := pK_le hm
    omega
  | succ d ih =>
    intro k hk hm V2 hr b13 b14 bq
    obtain ⟨p1, p2⟩ := pK_le hm
    have hend := (oK_end (tx := S.2.2.2.2.1) p1).1
    have hTx := hT hr hend b13 b14
    refine g_aload_n dX7_read_19 rfl ?_
    refine g_bipush (v := nI 59) dX7_read_20 (by decide) ?_
    refine g_bipush (v := nI 59) dX7_read_22 (by decide) ?_
    refine g_callVp (Y := YX7_isHere) sv_X7_220 rfl yn_X7_isHere 9 (by decide) rfl rfl dX7_read_24 (k_isHere hTx pR_ok) h0 rfl rfl rfl (Nat.le_of_ble_eq_true rfl) ⟨rfl, rfl⟩ ?_
    refine g_if_eq (tgt := 47) dX7_read_27 (by decide) (fun b1 => ?_) (fun b1 => ?_)
    · refine parsed V2 k hr ⟨hm, fun q => ci_eq b1 ?_⟩ b13 b14 bq
      have := (hr_ch (tx := S.2.2.2.2.1) (n := S.2.2.2.2.2.1) _ (nI 59)).mpr q.2
      rw [q.1]
      exact this
    have hh := ci_ne b1
    have hok : (oK S.2.2.2.2.1 S.2.2.2.2.2.1 (pK S.2.2.2.2.1 S.2.2.2.2.2.1 k)).1 = true := by
      have := hh.1
      revert this
      cases (oK S.2.2.2.2.1 S.2.2.2.2.2.1 (pK S.2.2.2.2.1 S.2.2.2.2.2.1 k)).1 with
      | true => intro _; rfl
      | false => intro q; cases q
    have hmk : more S.2.2.2.2.1 S.2.2.2.2.2.1 k := ⟨hok, (hr_ch _ (nI 59)).mp (by have h2 := hh; rw [hok] at h2; exact h2)⟩
    have hm1 : ∀ j, j < k + 1 → more S.2.2.2.2.1 S.2.2.2.2.2.1 j := fun j hj => by
      rcases Nat.lt_or_ge j k with y | y
      · exact hm j y
      · rw [show j = k by omega]
        exact hmk
    obtain ⟨p3, p4⟩ := pK_le hm1
    obtain ⟨c17, cq⟩ := bq hok
    refine g_aload_n dX7_read_30 rfl ?_
    refine g_dup dX7_read_31 rfl ?_
    refine g_get 9 rfl (by decide) inX7 13 (by decide) fl_X7_217 dX7_read_32 h0 b13 ?_
    refine g_iconst (v := nI 1) dX7_read_35 (by decide) ?_
    refine g_iadd dX7_read_36 ?_
    rw [nI_add]
    refine g_put 9 rfl (by decide) inX7 tyX7 tyX7_ok nmX7 13 (by decide) fl_X7_217 rfl dX7_read_37 h0 rfl rfl ?_
    have hr3 : Ro V (hu V2 m 13 (.int (nI ((oK S.2.2.2.2.1 S.2.2.2.2.2.1 (pK S.2.2.2.2.1 S.2.2.2.2.2.1 k)).2.1 + 1)))) m := hr.fd (by omega)
    have d13 : hu V2 m 13 (.int (nI ((oK S.2.2.2.2.1 S.2.2.2.2.2.1 (pK S.2.2.2.2.1 S.2.2.2.2.2.1 k)).2.1 + 1))) m 13 = .int (nI (pK S.2.2.2.2.1 S.2.2.2.2.2.1 (k + 1))) := hu_at _ _ _ _
    have d14 : hu V2 m 13 (.int (nI ((oK S.2.2.2.2.1 S.2.2.2.2.2.1 (pK S.2.2.2.2.1 S.2.2.2.2.2.1 k)).2.1 + 1))) m 14 = .int (bi (false = true)) := (hu_at_ne _ _ _ (by decide)).trans (by rw [b14, hok]; rfl)
    have d17 : hu V2 m 13 (.int (nI ((oK S.2.2.2.2.1 S.2.2.2.2.2.1 (pK S.2.2.2.2.1 S.2.2.2.2.2.1 k)).2.1 + 1))) m 17 = .int (nI (k + 1)) := (hu_at_ne _ _ _ (by decide)).trans c17
    have dq : ∀ j, j ≤ k → Oq (hu V2 m 13 (.int (nI ((oK S.2.2.2.2.1 S.2.2.2.2.2.1 (pK S.2.2.2.2.1 S.2.2.2.2.2.1 k)).2.1 + 1)))) m j (ordK S.2.2.2.2.1 S.2.2.2.2.2.1 j) := fun j hj => by
      obtain ⟨x1, x2, x3, x4⟩ := cq j hj
      have e7 : hu V2 m 13 (.int (nI ((oK S.2.2.2.2.1 S.2.2.2.2.2.1 (pK S.2.2.2.2.1 S.2.2.2.2.2.1 k)).2.1 + 1))) (m + 7) = V2 (m + 7) := hu_ne _ _ _ (by omega)
      unfold Oq
      rw [e7]
      exact ⟨x1, x2, x3, x4⟩
    generalize hu V2 m 13 (.int (nI ((oK S.2.2.2.2.1 S.2.2.2.2.2.1 (pK S.2.2.2.2.1 S.2.2.2.2.2.1 k)).2.1 + 1))) = V3 at hr3 d13 d14 d17 dq ⊢
    refine g_aload_n dX7_read_40 rfl ?_
    refine g_callVv (Y := YX7_readOrder) sv_X7_251 rfl yn_X7_readOrder 9 (by decide) rfl rfl dX7_read_41 (k_readOrder (P := pV (fun V4 => Ro V3 V4 m ∧ V4 m 13 = .int (nI (oK S.2.2.2.2.1 S.2.2.2.2.2.1 (pK S.2.2.2.2.1 S.2.2.2.2.2.1 (k + 1))).2.1) ∧ V4 m 14 = .int (bi ((!(oK S.2.2.2.2.1 S.2.2.2.2.2.1 (pK S.2.2.2.2.1 S.2.2.2.2.2.1 (k + 1))).1) = true)) ∧ ((oK S.2.2.2.2.1 S.2.2.2.2.2.1 (pK S.2.2.2.2.1 S.2.2.2.2.2.1 (k + 1))).1 = true → V4 m 17 = .int (nI (k + 1 + 1)) ∧ Oq V4 m (k + 1) (oK S.2.2.2.2.1 S.2.2.2.2.2.1 (pK S.2.2.2.2.1 S.2.2.2.2.2.1 (k + 1))).2.2 ∧ ∀ j, j < 4 * (k + 1) → V4 (m + 7) j = V3 (m + 7) j)) sh sz) (hT hr3 p3 d13 d14) s7 ((hr3.2 16 (by decide) (by decide) (by decide)).trans v16) d17 (by omega) (fun V' a b c d => ⟨rfl, rfl, rfl, a, b, c, d⟩)) h0 rfl rfl rfl (Nat.le_of_ble_eq_true rfl) ⟨rfl, rfl⟩ (fun V4 q => ?_)
    obtain ⟨a1, a2, a3, a4⟩ := q
    have ih := ih (k + 1) (by omega) hm1 V4 (hr3.trans a1) a2 a3 (fun q => ⟨(a4 q).1, fun j hj => by
      rcases Nat.lt_or_ge j (k + 1) with y | y
      · obtain ⟨x1, x2, x3, x4⟩ := dq j (by omega)
        have e := (a4 q).2.2
        exact ⟨(e _ (by omega)).trans x1, (e _ (by omega)).trans x2, (e _ (by omega)).trans x3, (e _ (by omega)).trans x4⟩
      · rw [show j = k + 1 by omega]
        exact (a4 q).2.1⟩)
    refine g_jump (tgt := 19) dX7_read_44 (by decide) ?_
    exact ih
end REF21

