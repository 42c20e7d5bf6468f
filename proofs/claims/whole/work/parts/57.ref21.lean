/-! the reference reads its text -/
section REF21
variable {E : gE} {M : gM} {P : gP} {sh : Sh} {sz : Nat} {V V' V1 V2 : Vl} {cu su pc : Nat} {L : List (Option Value)} {rest : List Value} {m n k : Nat} {f g : Fl} {th r er : Int32} {S : St} {tx : Nat → Int32}
/-- behind a reading -/
def rdE (S : St) (er : Int32) : St := (S.1, S.2.1, S.2.2.1, S.2.2.2.1, S.2.2.2.2.1, 0, er, S.2.2.2.2.2.2.2)
theorem MB.read (h : MB sh V m f th r S) (ho : ∀ a, a ≠ m → a ≠ m + 7 → V' a = V a) (hj : ∀ j, j ≠ 12 → j ≠ 13 → j ≠ 14 → j ≠ 15 → j ≠ 17 → V' m j = V m j) (h12 : V' m 12 = .int (nI 0)) (h15 : V' m 15 = .int er) : MB sh V' m f th r (rdE S er) := by
  obtain ⟨hS, ⟨s, ⟨v1, v2, v3, v4, v5, v6, v8, v9, v11, v12, v15, v16⟩, a, b', c, d1, d2⟩, h7, h10⟩ := h
  refine ⟨hS.keep (hj 0 (by decide) (by decide) (by decide) (by decide) (by decide)) (ho _ (by omega) (by omega)), ⟨s, ⟨?_, ?_, ?_, ?_, ?_, ?_, ?_, ?_, ?_, h12, h15, ?_⟩, by rw [ho _ (by omega) (by omega)]; exact a, by rw [ho _ (by omega) (by omega)]; exact b', fun k hk => absurd hk (Nat.not_lt_zero k), d1, Nat.zero_le _⟩, (hj 7 (by decide) (by decide) (by decide) (by decide) (by decide)).trans h7, (hj 10 (by decide) (by decide) (by decide) (by decide) (by decide)).trans h10⟩
  all_goals rw [hj _ (by decide) (by decide) (by decide) (by decide) (by decide)]; assumption
set_option maxRecDepth 100000 in
theorem r_read (h : MS sh V m S th) (hI : InvB S.1) (hP : RI sh m sz V (sp_read S) P) : MC E YX7_read [.ref m] sh sz V P := by
  obtain ⟨r, hB⟩ := h
  have h0 := hB.1.1
  obtain ⟨⟨-, h1, h2, h3⟩, ⟨⟨s2, s3, s4, s5, s6, s7⟩, ⟨v1, v2, v3, v4, v5, v6, v8, v9, v11, v12, v15, v16⟩, ha, hp, ht, hc8, hl⟩, -⟩ := id hB
  refine MC.of RX7 "read" rfl (by decide +kernel) rfl 1 [_, none] rfl (Nat.le_of_ble_eq_true rfl) ?_
  show G E MX7_read _ _ _ _ _ _ _ _ _
  refine g_aload_n dX7_read_0 rfl ?_
  refine g_iconst (v := nI 0) dX7_read_1 (by decide) ?_
  refine g_put 9 rfl (by decide) inX7 tyX7 tyX7_ok nmX7 13 (by decide) fl_X7_217 rfl dX7_read_2 h0 rfl rfl ?_
  refine g_aload_n dX7_read_5 rfl ?_
  refine g_iconst (v := nI 0) dX7_read_6 (by decide) ?_
  refine g_put 9 rfl (by decide) inX7 tyX7 tyX7_ok nmX7 14 (by decide) fl_X7_214 rfl dX7_read_7 h0 rfl rfl ?_
  refine g_aload_n dX7_read_10 rfl ?_
  refine g_iconst (v := nI 0) dX7_read_11 (by decide) ?_
  refine g_put 9 rfl (by decide) inX7 tyX7 tyX7_ok nmX7 17 (by decide) fl_X7_234 rfl dX7_read_12 h0 rfl rfl ?_
  have hr0 : Ro V (hu (hu (hu V m 13 (.int (nI 0))) m 14 (.int (nI 0))) m 17 (.int (nI 0))) m := ((Ro.rf.fd (by omega)).fd (by omega)).fd (by omega)
  have u13 : hu (hu (hu V m 13 (.int (nI 0))) m 14 (.int (nI 0))) m 17 (.int (nI 0)) m 13 = .int (nI 0) := (hu_at_ne _ _ _ (by decide)).trans ((hu_at_ne _ _ _ (by decide)).trans (hu_at _ _ _ _))
  have u14 : hu (hu (hu V m 13 (.int (nI 0))) m 14 (.int (nI 0))) m 17 (.int (nI 0)) m 14 = .int (bi (false = true)) := (hu_at_ne _ _ _ (by decide)).trans (hu_at _ _ _ _)
  have u17 : hu (hu (hu V m 13 (.int (nI 0))) m 14 (.int (nI 0))) m 17 (.int (nI 0)) m 17 = .int (nI 0) := hu_at _ _ _ _
  generalize hu (hu (hu V m 13 (.int (nI 0))) m 14 (.int (nI 0))) m 17 (.int (nI 0)) = V1 at hr0 u13 u14 u17 ⊢
  have hT : ∀ {V2 p w}, Ro V V2 m → p ≤ S.2.2.2.2.2.1 → V2 m 13 = .int (nI p) → V2 m 14 = .int (bi (w = true)) → Tx sh V2 m S.2.2.2.2.2.1 S.2.2.2.2.1 p w := fun hr a b c => ⟨h0, s6, (hr.2 _ (by decide) (by decide) (by decide)).trans v11, (hr.2 _ (by decide) (by decide) (by decide)).trans v12, fun k hk => by rw [hr.1 _ (by omega) (by omega)]; exact ht k hk, hl, a, b, c⟩
  refine g_aload_n dX7_read_15 rfl ?_
  refine g_callVv (Y := YX7_readOrder) sv_X7_251 rfl yn_X7_readOrder 9 (by decide) rfl rfl dX7_read_16 (k_readOrder (P := pV (fun V2 => Ro V1 V2 m ∧ V2 m 13 = .int (nI (oK S.2.2.2.2.1 S.2.2.2.2.2.1 0).2.1) ∧ V2 m 14 = .int (bi ((!(oK S.2.2.2.2.1 S.2.2.2.2.2.1 0).1) = true)) ∧ ((oK S.2.2.2.2.1 S.2.2.2.2.2.1 0).1 = true → V2 m 17 = .int (nI (0 + 1)) ∧ Oq V2 m 0 (oK S.2.2.2.2.1 S.2.2.2.2.2.1 0).2.2 ∧ ∀ k, k < 4 * 0 → V2 (m + 7) k = V1 (m + 7) k)) sh sz) (hT hr0 (Nat.zero_le _) u13 u14) s7 ((hr0.2 16 (by decide) (by decide) (by decide)).trans v16) u17 (Nat.zero_le _) (fun V' a b c d => ⟨rfl, rfl, rfl, a, b, c, d⟩)) h0 rfl rfl rfl (Nat.le_of_ble_eq_true rfl) ⟨rfl, rfl⟩ (fun V2 q => ?_)
  obtain ⟨a1, a2, a3, a4⟩ := q
  -- behind the parsing
  have parsed : ∀ V2 kk, Ro V V2 m → lastO S.2.2.2.2.1 S.2.2.2.2.2.1 kk → V2 m 13 = .int (nI (oK S.2.2.2.2.1 S.2.2.2.2.2.1 (pK S.2.2.2.2.1 S.2.2.2.2.2.1 kk)).2.1) → V2 m 14 = .int (bi ((!(oK S.2.2.2.2.1 S.2.2.2.2.2.1 (pK S.2.2.2.2.1 S.2.2.2.2.2.1 kk)).1) = true)) → ((oK S.2.2.2.2.1 S.2.2.2.2.2.1 (pK S.2.2.2.2.1 S.2.2.2.2.2.1 kk)).1 = true → V2 m 17 = .int (nI (kk + 1)) ∧ ∀ j, j ≤ kk → Oq V2 m j (ordK S.2.2.2.2.1 S.2.2.2.2.2.1 j)) → G E MX7_read P sh sz V2 0 0 47 [some (.ref m), none] [] := by
    intro V2 kk hr hlast b13 b14 bq
    obtain ⟨ek, hk20⟩ := kk_of hl hlast
    have hend := (oK_end (tx := S.2.2.2.2.1) (pK_le hlast.1).1).1
    have g12 : V2 m 12 = .int (nI S.2.2.2.2.2.1) := (hr.2 _ (by decide) (by decide) (by decide)).trans v12
    have hMf : ∀ {V3}, (∀ a, a ≠ m → V3 a = V2 a) → Mf V V3 m := fun h9 a ha => (h9 a (by omega)).trans (hr.1 a (by omega) (by omega))
    unfold sp_read rdS at hP
    rw [ek] at hP
    by_cases hfine : fine S.2.2.2.2.1 S.2.2.2.2.2.1 kk
    rotate_left
    · rw [if_neg hfine, errI_f hfine] at hP
      have wrong : G E MX7_read P sh sz V2 0 0 66 [some (.ref m), none] [.ref m] := by
        refine g_iconst (v := nI 1) dX7_read_66 (by decide) ?_
        refine g_jump (tgt := 71) dX7_read_67 (by decide) ?_
        refine g_put 9 rfl (by decide) inX7 tyX7 tyX7_ok nmX7 14 (by decide) fl_X7_214 rfl dX7_read_71 h0 rfl rfl ?_
        have x14 : hu V2 m 14 (.int (nI 1)) m 14 = .int (nI 1) := hu_at _ _ _ _
        have x13 := (hu_at_ne V2 m (.int (nI 1)) (show 13 ≠ 14 by decide)).trans b13
        refine g_aload_n dX7_read_74 rfl ?_
        refine g_aload_n dX7_read_75 rfl ?_
        refine g_get 9 rfl (by decide) inX7 14 (by decide) fl_X7_214 dX7_read_76 h0 x14 ?_
        refine g_if_eq (tgt := 89) dX7_read_79 (by decide) (fun hq => absurd hq ((by decide))) (fun _ => ?_)
        refine g_aload_n dX7_read_82 rfl ?_
        refine g_get 9 rfl (by decide) inX7 13 (by decide) fl_X7_217 dX7_read_83 h0 x13 ?_
        refine g_jump (tgt := 90) dX7_read_86 (by decide) ?_
        refine g_put 9 rfl (by decide) inX7 tyX7 tyX7_ok nmX7 15 (by decide) fl_X7_29 rfl dX7_read_90 h0 rfl rfl ?_
        refine g_aload_n dX7_read_93 rfl ?_
        refine g_iconst (v := nI 0) dX7_read_94 (by decide) ?_
        refine g_put 9 rfl (by decide) inX7 tyX7 tyX7_ok nmX7 12 (by decide) fl_X7_211 rfl dX7_read_95 h0 rfl rfl ?_
        have y14 : hu (hu (hu V2 m 14 (.int (nI 1))) m 15 (.int (nI (oK S.2.2.2.2.1 S.2.2.2.2.2.1 (pK S.2.2.2.2.1 S.2.2.2.2.2.1 kk)).2.1))) m 12 (.int (nI 0)) m 14 = .int (nI 1) := (hu_at_ne _ _ _ (by decide)).trans ((hu_at_ne _ _ _ (by decide)).trans x14)
        have y15 : hu (hu (hu V2 m 14 (.int (nI 1))) m 15 (.int (nI (oK S.2.2.2.2.1 S.2.2.2.2.2.1 (pK S.2.2.2.2.1 S.2.2.2.2.2.1 kk)).2.1))) m 12 (.int (nI 0)) m 15 = .int (nI (oK S.2.2.2.2.1 S.2.2.2.2.2.1 (pK S.2.2.2.2.1 S.2.2.2.2.2.1 kk)).2.1) := (hu_at_ne _ _ _ (by decide)).trans (hu_at _ _ _ _)
        have y12 : hu (hu (hu V2 m 14 (.int (nI 1))) m 15 (.int (nI (oK S.2.2.2.2.1 S.2.2.2.2.2.1 (pK S.2.2.2.2.1 S.2.2.2.2.2.1 kk)).2.1))) m 12 (.int (nI 0)) m 12 = .int (nI 0) := hu_at _ _ _ _
        have yo : ∀ a, a ≠ m → hu (hu (hu V2 m 14 (.int (nI 1))) m 15 (.int (nI (oK S.2.2.2.2.1 S.2.2.2.2.2.1 (pK S.2.2.2.2.1 S.2.2.2.2.2.1 kk)).2.1))) m 12 (.int (nI 0)) a = V2 a := fun a q => (hu_ne _ _ _ q).trans ((hu_ne _ _ _ q).trans (hu_ne _ _ _ q))
        have yj : ∀ j, j ≠ 12 → j ≠ 14 → j ≠ 15 → hu (hu (hu V2 m 14 (.int (nI 1))) m 15 (.int (nI (oK S.2.2.2.2.1 S.2.2.2.2.2.1 (pK S.2.2.2.2.1 S.2.2.2.2.2.1 kk)).2.1))) m 12 (.int (nI 0)) m j = V2 m j := fun j a b c => (hu_at_ne _ _ _ a).trans ((hu_at_ne _ _ _ c).trans (hu_at_ne _ _ _ b))
        generalize hu (hu (hu V2 m 14 (.int (nI 1))) m 15 (.int (nI (oK S.2.2.2.2.1 S.2.2.2.2.2.1 (pK S.2.2.2.2.1 S.2.2.2.2.2.1 kk)).2.1))) m 12 (.int (nI 0)) = V3 at y14 y15 y12 yo yj ⊢
        have hM3 := hB.read (er := nI (oK S.2.2.2.2.1 S.2.2.2.2.2.1 (pK S.2.2.2.2.1 S.2.2.2.2.2.1 kk)).2.1) (V' := V3) (fun a q1 q2 => (yo a q1).trans (hr.1 a q1 q2)) (fun j a b c d e => (yj j a c d).trans (hr.2 j b c e)) y12 y15
        refine g_aload_n dX7_read_98 rfl ?_
        refine g_get 9 rfl (by decide) inX7 14 (by decide) fl_X7_214 dX7_read_99 h0 y14 ?_
        refine g_if_eq (tgt := 111) dX7_read_102 (by decide) (fun hq => absurd hq ((by decide))) (fun _ => ?_)
        refine g_aload_n dX7_read_105 rfl ?_
        refine g_iconst (v := nI 1) dX7_read_106 (by decide) ?_
        refine g_callVw (Y := YX7_fails) sv_X7_88 rfl yn_X7_fails 9 (by decide) rfl rfl dX7_read_107 (k_fails (P := pW (fun v V' => v = .int (nI 0) ∧ V' = hu V3 m 7 (.int (nI 1))) sh sz) h0 ⟨_, rfl, rfl, rfl, rfl, rfl⟩) h0 rfl rfl rfl (Nat.le_of_ble_eq_true rfl) ⟨rfl, rfl⟩ (fun v V' q => ?_)
        obtain ⟨rfl, rfl⟩ := q
        exact g_iret rfl (nr_int _) dX7_read_110 (by decide) (hP _ _ (hMf (fun a q => (hu_ne _ _ _ q).trans (yo a q))) (fun z => absurd z (Nat.succ_ne_zero _)) ⟨r, hM3.thr⟩)
      refine g_aload_n dX7_read_47 rfl ?_
      refine g_aload_n dX7_read_48 rfl ?_
      refine g_get 9 rfl (by decide) inX7 14 (by decide) fl_X7_214 dX7_read_49 h0 b14 ?_
      refine g_if_ne (tgt := 66) dX7_read_52 (by decide) (fun c1 => ?_) (fun c1 => ?_)
      · exact wrong
      have hok : (oK S.2.2.2.2.1 S.2.2.2.2.2.1 (pK S.2.2.2.2.1 S.2.2.2.2.2.1 kk)).1 = true := by
        have := bi_eq c1
        revert this
        cases (oK S.2.2.2.2.1 S.2.2.2.2.2.1 (pK S.2.2.2.2.1 S.2.2.2.2.2.1 kk)).1 with
        | true => intro _; rfl
        | false => intro q; exact absurd rfl q
      refine g_aload_n dX7_read_55 rfl ?_
      refine g_get 9 rfl (by decide) inX7 13 (by decide) fl_X7_217 dX7_read_56 h0 b13 ?_
      refine g_aload_n dX7_read_59 rfl ?_
      refine g_get 9 rfl (by decide) inX7 12 (by decide) fl_X7_211 dX7_read_60 h0 g12 ?_
      refine g_icmp_ge (tgt := 70) dX7_read_63 (by decide) (fun c2 => ?_) (fun c2 => ?_)
      · exact absurd ⟨hok, fun q => absurd (nI_lt q (by omega)) (Int32.not_lt.mpr c2)⟩ hfine
      · exact wrong
    rw [if_pos hfine, errI_t hfine] at hP
    have hok := hfine.1
    obtain ⟨c17, cq⟩ := bq hok
    rw [hok] at b14
    refine g_aload_n dX7_read_47 rfl ?_
    refine g_aload_n dX7_read_48 rfl ?_
    refine g_get 9 rfl (by decide) inX7 14 (by decide) fl_X7_214 dX7_read_49 h0 b14 ?_
    refine g_if_ne (tgt := 66) dX7_read_52 (by decide) (fun hq => absurd hq ((fun q => q rfl))) (fun _ => ?_)
    refine g_aload_n dX7_read_55 rfl ?_
    refine g_get 9 rfl (by decide) inX7 13 (by decide) fl_X7_217 dX7_read_56 h0 b13 ?_
    refine g_aload_n dX7_read_59 rfl ?_
    refine g_get 9 rfl (by decide) inX7 12 (by decide) fl_X7_211 dX7_read_60 h0 g12 ?_
    refine g_icmp_ge (tgt := 70) dX7_read_63 (by decide) (fun _ => ?_) (fun hq => absurd (nI_le (by have := hfine.2; omega) (by omega)) hq)
    refine g_iconst (v := nI 0) dX7_read_70 (by decide) ?_
    refine g_put 9 rfl (by decide) inX7 tyX7 tyX7_ok nmX7 14 (by decide) fl_X7_214 rfl dX7_read_71 h0 rfl rfl ?_
    have x14 : hu V2 m 14 (.int (nI 0)) m 14 = .int (nI 0) := hu_at _ _ _ _
    refine g_aload_n dX7_read_74 rfl ?_
    refine g_aload_n dX7_read_75 rfl ?_
    refine g_get 9 rfl (by decide) inX7 14 (by decide) fl_X7_214 dX7_read_76 h0 x14 ?_
    refine g_if_eq (tgt := 89) dX7_read_79 (by decide) (fun _ => ?_) (fun hq => absurd (rfl) hq)
    refine g_iconst (v := (-1)) dX7_read_89 (by decide) ?_
    refine g_put 9 rfl (by decide) inX7 tyX7 tyX7_ok nmX7 15 (by decide) fl_X7_29 rfl dX7_read_90 h0 rfl rfl ?_
    refine g_aload_n dX7_read_93 rfl ?_
    refine g_iconst (v := nI 0) dX7_read_94 (by decide) ?_
    refine g_put 9 rfl (by decide) inX7 tyX7 tyX7_ok nmX7 12 (by decide) fl_X7_211 rfl dX7_read_95 h0 rfl rfl ?_
    have y14 : hu (hu (hu V2 m 14 (.int (nI 0))) m 15 (.int (-1))) m 12 (.int (nI 0)) m 14 = .int (nI 0) := (hu_at_ne _ _ _ (by decide)).trans ((hu_at_ne _ _ _ (by decide)).trans x14)
    have y15 : hu (hu (hu V2 m 14 (.int (nI 0))) m 15 (.int (-1))) m 12 (.int (nI 0)) m 15 = .int (-1) := (hu_at_ne _ _ _ (by decide)).trans (hu_at _ _ _ _)
    have y12 : hu (hu (hu V2 m 14 (.int (nI 0))) m 15 (.int (-1))) m 12 (.int (nI 0)) m 12 = .int (nI 0) := hu_at _ _ _ _
    have yo : ∀ a, a ≠ m → hu (hu (hu V2 m 14 (.int (nI 0))) m 15 (.int (-1))) m 12 (.int (nI 0)) a = V2 a := fun a q => (hu_ne _ _ _ q).trans ((hu_ne _ _ _ q).trans (hu_ne _ _ _ q))
    have yj : ∀ j, j ≠ 12 → j ≠ 14 → j ≠ 15 → hu (hu (hu V2 m 14 (.int (nI 0))) m 15 (.int (-1))) m 12 (.int (nI 0)) m j = V2 m j := fun j a b c => (hu_at_ne _ _ _ a).trans ((hu_at_ne _ _ _ c).trans (hu_at_ne _ _ _ b))
    generalize hu (hu (hu V2 m 14 (.int (nI 0))) m 15 (.int (-1))) m 12 (.int (nI 0)) = V3 at y14 y15 y12 yo yj ⊢
    have hM3 := hB.read (er := -1) (V' := V3) (fun a q1 q2 => (yo a q1).trans (hr.1 a q1 q2)) (fun j a b c d e => (yj j a c d).trans (hr.2 j b c e)) y12 y15
    refine g_aload_n dX7_read_98 rfl ?_
    refine g_get 9 rfl (by decide) inX7 14 (by decide) fl_X7_214 dX7_read_99 h0 y14 ?_
    refine g_if_eq (tgt := 111) dX7_read_102 (by decide) (fun _ => ?_) (fun hq => absurd (rfl) hq)
    refine g_aload_n dX7_read_111 rfl ?_
    refine g_callVv (Y := YX7_keep) (Q := (fun V4 => (∀ a, a ≠ m → a ≠ m + 2 → V4 a = V3 a) ∧ (∀ j, j ≠ 7 → V4 m j = V3 m j) ∧ MB sh V4 m S.1 0 r (rdE S (-1)) ∧ Bk V4 m S.1)) sv_X7_92 rfl yn_X7_keep 9 (by decide) rfl rfl dX7_read_112 (k_keep hM3 (fun V' a b c d => ⟨rfl, rfl, rfl, a, b, c, d⟩)) h0 rfl rfl rfl (Nat.le_of_ble_eq_true rfl) ⟨rfl, rfl⟩ (fun V4 q => ?_)
    obtain ⟨w1, w2, w3, w4⟩ := q
    have e17 : V4 m 17 = .int (nI (kk + 1)) := (w2 _ (by decide)).trans ((yj _ (by decide) (by decide) (by decide)).trans c17)
    have eo : ∀ j, j ≤ kk → Oq V4 m j (ordK S.2.2.2.2.1 S.2.2.2.2.2.1 j) := fun j hj => by
      have e7 : V4 (m + 7) = V2 (m + 7) := (w1 _ (by omega) (by omega)).trans (yo _ (by omega))
      unfold Oq
      rw [e7]
      exact cq j hj
    have hm4 : Mf V V4 m := fun a ha => (w1 a (by omega) (by omega)).trans ((yo a (by omega)).trans (hr.1 a (by omega) (by omega)))
    refine g_iconst (v := nI 0) dX7_read_115 (by decide) ?_
    refine g_istore_n dX7_read_116 (by decide) rfl ?_
    show G _ _ _ _ _ _ _ _ _ [_, _] _
    suffices K : ∀ (d k : Nat), k + d = kk + 1 → (∀ j, j < k → exO (rowsK S.1 S.2.2.2.2.1 S.2.2.2.2.2.1 j) (ordK S.2.2.2.2.1 S.2.2.2.2.2.1 j) = nI 0) → InvB (rowsK S.1 S.2.2.2.2.1 S.2.2.2.2.2.1 k) → ∀ V5 r5, Mf V V5 m → MB sh V5 m (rowsK S.1 S.2.2.2.2.1 S.2.2.2.2.2.1 k) 0 r5 (rdE S (-1)) → Bk V5 m S.1 → V5 m 17 = .int (nI (kk + 1)) → (∀ j, j ≤ kk → Oq V5 m j (ordK S.2.2.2.2.1 S.2.2.2.2.2.1 j)) → G E MX7_read P sh sz V5 0 0 117 [some (.ref m), some (.int (nI k))] [] from K (kk + 1) 0 (Nat.zero_add _) (fun j hj => absurd hj (Nat.not_lt_zero j)) hI V4 r hm4 w3 w4 e17 eo
    clear w1 w2 w3 w4 e17 eo hm4 V4 hM3 y14 y15 y12 yo yj V3
    intro d
    induction d with
    | zero =>
      intro k hk hall hIk V5 r5 hm5 hM5 hb5 g17 gq
      have hk : k = kk + 1 := by omega
      rw [hk] at hIk hM5 ⊢
      have hb : ¬ badK S.1 S.2.2.2.2.1 S.2.2.2.2.2.1 < kk + 1 := by
        unfold badK
        rw [ek]
        exact fa_first_none (fun k hk => cb_f (fun q => q (hall k (by omega))))
      rw [if_neg hb] at hP
      refine g_iload_n dX7_read_117 rfl ?_
      refine g_aload_n dX7_read_118 rfl ?_
      refine g_get 9 rfl (by decide) inX7 17 (by decide) fl_X7_234 dX7_read_119 h0 g17 ?_
      refine g_icmp_ge (tgt := 170) dX7_read_122 (by decide) (fun _ => ?_) (fun hq => absurd (Int32.le_refl _) hq)
      refine g_aload_n dX7_read_170 rfl ?_
      refine g_aload_n dX7_read_171 rfl ?_
      refine g_get 9 rfl (by decide) inX7 17 (by decide) fl_X7_234 dX7_read_172 h0 g17 ?_
      refine g_callVw (Y := YX7_ends) sv_X7_98 rfl yn_X7_ends 9 (by decide) rfl rfl dX7_read_175 (k_ends (P := pW (fun v V6 => P (.inl (some v)) sh sz V6 ∧ ∃ x, v = .int x) sh sz) hM5 hb5 (fun hq0 V6 a b => absurd hq0 (by decide)) (fun hq0 V6 a b => ⟨_, rfl, rfl, rfl, hP V6 _ (hm5.trans a) (fun _ => rfl) ⟨r5, b⟩, _, rfl⟩)) h0 rfl rfl rfl (Nat.le_of_ble_eq_true rfl) ⟨rfl, rfl⟩ (fun v V6 q => ?_)
      obtain ⟨q, x, rfl⟩ := q
      exact g_iret rfl (nr_int _) dX7_read_178 (by decide) q
    | succ d ih =>
      intro k hk hall hIk V5 r5 hm5 hM5 hb5 g17 gq
      have hL : isL (ordK S.2.2.2.2.1 S.2.2.2.2.2.1 k).1 := by
        refine oK_let ?_
        rcases Nat.lt_or_ge k kk with y | y
        · exact (hlast.1 k y).1
        · rw [show k = kk by omega]
          exact hok
      obtain ⟨x1, x2, x3⟩ := exD_is hIk hL
      refine g_iload_n dX7_read_117 rfl ?_
      refine g_aload_n dX7_read_118 rfl ?_
      refine g_get 9 rfl (by decide) inX7 17 (by decide) fl_X7_234 dX7_read_119 h0 g17 ?_
      refine g_icmp_ge (tgt := 170) dX7_read_122 (by decide) (fun hq => absurd hq (nI_ge (by omega) (by omega))) (fun _ => ?_)
      refine g_aload_n dX7_read_125 rfl ?_
      refine g_iconst (v := nI 0) dX7_read_126 (by decide) ?_
      refine g_put 9 rfl (by decide) inX7 tyX7 tyX7_ok nmX7 10 (by decide) fl_X7_63 rfl dX7_read_127 h0 rfl rfl ?_
      have hM6 := hM5.isr (x := nI 0)
      have q6 : Oq (hu V5 m 10 (.int (nI 0))) m k (ordK S.2.2.2.2.1 S.2.2.2.2.2.1 k) := by
        unfold Oq
        rw [hu_ne _ _ _ (by omega)]
        exact gq k (by omega)
      have o6 : ∀ a, a ≠ m → hu V5 m 10 (.int (nI 0)) a = V5 a := fun a q => hu_ne _ _ _ q
      have j6 : ∀ j, j ≠ 10 → hu V5 m 10 (.int (nI 0)) m j = V5 m j := fun j q => hu_at_ne _ _ _ q
      generalize hu V5 m 10 (.int (nI 0)) = V6 at hM6 q6 o6 j6 ⊢
      refine g_aload_n dX7_read_130 rfl ?_
      refine g_iload_n dX7_read_131 rfl ?_
      refine g_callVv (Y := YX7_does) sv_X7_254 rfl yn_X7_does 9 (by decide) rfl rfl dX7_read_132 (k_does (P := pV (fun V7 => (∀ a, a ≠ m → a ≠ m + 1 → V7 a = V6 a) ∧ (∀ j, j ≠ 7 → j ≠ 8 → j ≠ 9 → j ≠ 10 → V7 m j = V6 m j) ∧ MB sh V7 m (exD (rowsK S.1 S.2.2.2.2.1 S.2.2.2.2.2.1 k) (ordK S.2.2.2.2.1 S.2.2.2.2.2.1 k)).2.2.1 (nI (exD (rowsK S.1 S.2.2.2.2.1 S.2.2.2.2.2.1 k) (ordK S.2.2.2.2.1 S.2.2.2.2.2.1 k)).1) (dqR (nI 0) (exD (rowsK S.1 S.2.2.2.2.1 S.2.2.2.2.2.1 k) (ordK S.2.2.2.2.1 S.2.2.2.2.2.1 k)).2.2.2) (dqS (rdE S (-1)) (exD (rowsK S.1 S.2.2.2.2.1 S.2.2.2.2.2.1 k) (ordK S.2.2.2.2.1 S.2.2.2.2.2.1 k)).2.2.2)) sh sz) hM6 hIk q6 hL (by omega) (fun V' a b c => ⟨rfl, rfl, rfl, a, b, c⟩)) h0 rfl rfl rfl (Nat.le_of_ble_eq_true rfl) ⟨rfl, rfl⟩ (fun V7 q => ?_)
      obtain ⟨w1, w2, hM7⟩ := q
      have hb7 : Bk V7 m S.1 := fun i hi => by rw [w1 _ (by omega) (by omega), o6 _ (by omega)]; exact hb5 i hi
      have hm7 : Mf V V7 m := hm5.trans (fun a ha => (w1 a (by omega) (by omega)).trans (o6 a (by omega)))
      have g17' : V7 m 17 = .int (nI (kk + 1)) := (w2 _ (by decide) (by decide) (by decide) (by decide)).trans ((j6 _ (by decide)).trans g17)
      have gq' : ∀ j, j ≤ kk → Oq V7 m j (ordK S.2.2.2.2.1 S.2.2.2.2.2.1 j) := fun j hj => by
        have e7 : V7 (m + 7) = V5 (m + 7) := (w1 _ (by omega) (by omega)).trans (o6 _ (by omega))
        unfold Oq
        rw [e7]
        exact gq j hj
      generalize hD : exD (rowsK S.1 S.2.2.2.2.1 S.2.2.2.2.2.1 k) (ordK S.2.2.2.2.1 S.2.2.2.2.2.1 k) = D at x1 x2 x3 hM7
      obtain ⟨D1, D2, D3, D4⟩ := D
      by_cases he : exO (rowsK S.1 S.2.2.2.2.1 S.2.2.2.2.2.1 k) (ordK S.2.2.2.2.1 S.2.2.2.2.2.1 k) = nI 0
      · obtain ⟨y1, y2, y3⟩ := x1 he
        have y1 : D1 = 0 := y1
        have y2 : D3 = _ := y2
        have y3 : D4 = none := y3
        subst y1
        subst y2
        subst y3
        have ih := ih (k + 1) (by omega) (fun j hj => by
          rcases Nat.lt_or_ge j k with y | y
          · exact hall j y
          · rw [show j = k by omega]
            exact he) (exF_inv hIk hL he) V7 _ hm7 hM7 hb7 g17' gq'
        refine g_aload_n dX7_read_135 rfl ?_
        refine g_get 9 rfl (by decide) inX7 7 (by decide) fl_X7_45 dX7_read_136 h0 hM7.2.2.1 ?_
        refine g_if_le (tgt := 164) dX7_read_139 (by decide) (fun _ => ?_) (fun hq => absurd (Int32.le_refl _) hq)
        refine g_iinc dX7_read_164 rfl (by first | exact nI_inc _ | rfl) (by decide) rfl ?_
        show G _ _ _ _ _ _ _ _ _ [_, _] _
        refine g_jump (tgt := 117) dX7_read_167 (by decide) ?_
        exact ih
      have hb : badK S.1 S.2.2.2.2.1 S.2.2.2.2.2.1 = k := by
        unfold badK
        rw [ek]
        exact fa_first_eq (by omega) (cb_t he) (fun j hj => cb_f (fun q => q (hall j hj)))
      rw [hb, if_pos (by omega)] at hP
      rcases ex_ref hIk hL he with y | ⟨y, -, -⟩
      · obtain ⟨y1, y2, y3, y4⟩ := x2 y
        have y1 : 0 < D1 := y1
        have y2 : D1 < 4 := y2
        have y4 : D4 = none := y4
        subst y4
        rw [if_pos y] at hP
        have hlt : 0 < nI D1 := nI_lt (a := 0) y1 (by omega)
        refine g_aload_n dX7_read_135 rfl ?_
        refine g_get 9 rfl (by decide) inX7 7 (by decide) fl_X7_45 dX7_read_136 h0 hM7.2.2.1 ?_
        refine g_if_le (tgt := 164) dX7_read_139 (by decide) (fun hq => absurd hq (Int32.not_le.mpr hlt)) (fun _ => ?_)
        refine g_aload_n dX7_read_142 rfl ?_
        refine g_aload_n dX7_read_143 rfl ?_
        refine g_get 9 rfl (by decide) inX7 10 (by decide) fl_X7_63 dX7_read_144 h0 hM7.2.2.2 ?_
        refine g_if_eq (tgt := 154) dX7_read_147 (by decide) (fun _ => ?_) (fun hq => absurd (rfl) hq)
        refine g_iconst (v := nI 1) dX7_read_154 (by decide) ?_
        refine g_put 9 rfl (by decide) inX7 tyX7 tyX7_ok nmX7 7 (by decide) fl_X7_45 rfl dX7_read_155 h0 rfl rfl ?_
        have hM8 := hM7.thr (x := nI 1)
        have hb8 : Bk (hu V7 m 7 (.int (nI 1))) m S.1 := fun i hi => by rw [hu_ne _ _ _ (by omega)]; exact hb7 i hi
        have hm8 : Mf V (hu V7 m 7 (.int (nI 1))) m := fun a ha => (hu_ne _ _ _ (by omega)).trans (hm7 a ha)
        generalize hu V7 m 7 (.int (nI 1)) = V8 at hM8 hb8 hm8 ⊢
        refine g_aload_n dX7_read_158 rfl ?_
        refine g_iconst (v := nI 0) dX7_read_159 (by decide) ?_
        refine g_callVw (Y := YX7_ends) sv_X7_98 rfl yn_X7_ends 9 (by decide) rfl rfl dX7_read_160 (k_ends (P := pW (fun v V9 => P (.inl (some v)) sh sz V9 ∧ ∃ x, v = .int x) sh sz) hM8 hb8 (fun hq0 V9 a b => ⟨_, rfl, rfl, rfl, hP V9 _ (hm8.trans a) (fun z => absurd z (Nat.succ_ne_zero _)) ⟨_, b⟩, _, rfl⟩) (fun hq0 V9 a b => absurd (by decide) hq0)) h0 rfl rfl rfl (Nat.le_of_ble_eq_true rfl) ⟨rfl, rfl⟩ (fun v V9 q => ?_)
        obtain ⟨q, x, rfl⟩ := q
        exact g_iret rfl (nr_int _) dX7_read_163 (by decide) q
      · obtain ⟨y1, y2, y3, y4⟩ := x3 y
        have y1 : 0 < D1 := y1
        have y2 : D1 < 4 := y2
        have y4 : D4 = some _ := y4
        subst y4
        rw [if_neg (fun q => (Int32.lt_irrefl (Int32.lt_trans q y)).elim)] at hP
        have hlt : 0 < nI D1 := nI_lt (a := 0) y1 (by omega)
        refine g_aload_n dX7_read_135 rfl ?_
        refine g_get 9 rfl (by decide) inX7 7 (by decide) fl_X7_45 dX7_read_136 h0 hM7.2.2.1 ?_
        refine g_if_le (tgt := 164) dX7_read_139 (by decide) (fun hq => absurd hq (Int32.not_le.mpr hlt)) (fun _ => ?_)
        refine g_aload_n dX7_read_142 rfl ?_
        refine g_aload_n dX7_read_143 rfl ?_
        refine g_get 9 rfl (by decide) inX7 10 (by decide) fl_X7_63 dX7_read_144 h0 hM7.2.2.2 ?_
        refine g_if_eq (tgt := 154) dX7_read_147 (by decide) (fun hq => absurd hq ((show ¬ nI 1 = 0 by decide))) (fun _ => ?_)
        refine g_iconst (v := nI 2) dX7_read_150 (by decide) ?_
        refine g_jump (tgt := 155) dX7_read_151 (by decide) ?_
        refine g_put 9 rfl (by decide) inX7 tyX7 tyX7_ok nmX7 7 (by decide) fl_X7_45 rfl dX7_read_155 h0 rfl rfl ?_
        have hM8 := hM7.thr (x := nI 2)
        have hb8 : Bk (hu V7 m 7 (.int (nI 2))) m S.1 := fun i hi => by rw [hu_ne _ _ _ (by omega)]; exact hb7 i hi
        have hm8 : Mf V (hu V7 m 7 (.int (nI 2))) m := fun a ha => (hu_ne _ _ _ (by omega)).trans (hm7 a ha)
        generalize hu V7 m 7 (.int (nI 2)) = V8 at hM8 hb8 hm8 ⊢
        refine g_aload_n dX7_read_158 rfl ?_
        refine g_iconst (v := nI 0) dX7_read_159 (by decide) ?_
        refine g_callVw (Y := YX7_ends) sv_X7_98 rfl yn_X7_ends 9 (by decide) rfl rfl dX7_read_160 (k_ends (P := pW (fun v V9 => P (.inl (some v)) sh sz V9 ∧ ∃ x, v = .int x) sh sz) hM8 hb8 (fun hq0 V9 a b => ⟨_, rfl, rfl, rfl, hP V9 _ (hm8.trans a) (fun z => absurd z (Nat.succ_ne_zero _)) ⟨_, b⟩, _, rfl⟩) (fun hq0 V9 a b => absurd (by decide) hq0)) h0 rfl rfl rfl (Nat.le_of_ble_eq_true rfl) ⟨rfl, rfl⟩ (fun v V9 q => ?_)
        obtain ⟨q, x, rfl⟩ := q
        exact g_iret rfl (nr_int _) dX7_read_163 (by decide) q
  suffices K : ∀ (d k : Nat), k + d = 21 → (∀ j, j < k → more S.2.2.2.2.1 S.2.2.2.2.2.1 j) → ∀ V2, Ro V V2 m → V2 m 13 = .int (nI (oK S.2.2.2.2.1 S.2.2.2.2.2.1 (pK S.2.2.2.2.1 S.2.2.2.2.2.1 k)).2.1) → V2 m 14 = .int (bi ((!(oK S.2.2.2.2.1 S.2.2.2.2.2.1 (pK S.2.2.2.2.1 S.2.2.2.2.2.1 k)).1) = true)) → ((oK S.2.2.2.2.1 S.2.2.2.2.2.1 (pK S.2.2.2.2.1 S.2.2.2.2.2.1 k)).1 = true → V2 m 17 = .int (nI (k + 1)) ∧ ∀ j, j ≤ k → Oq V2 m j (ordK S.2.2.2.2.1 S.2.2.2.2.2.1 j)) → G E MX7_read P sh sz V2 0 0 19 [some (.ref m), none] [] from K 21 0 rfl (fun j hj => absurd hj (Nat.not_lt_zero j)) V2 (hr0.trans a1) a2 a3 (fun q => ⟨(a4 q).1, fun j hj => by rw [show j = 0 by omega]; exact (a4 q).2.1⟩)
  clear a1 a2 a3 a4 V2
  intro d
  induction d with
  | zero =>
    intro k hk hm
    have := pK_le hm
    omega
  | succ d ih =>
    intro k hk hm V2 hr b13 b14 bq
    obtain ⟨p1, p2⟩ := pK_le hm
    have hend := (oK_end (tx := S.2.2.2.2.1) p1).1
    have hTx := hT hr hend b13 b14
    refine g_aload_n dX7_read_19 rfl ?_
    refine g_bipush (v := nI 59) dX7_read_20 (by decide) ?_
    refine g_bipush (v := nI 59) dX7_read_22 (by decide) ?_
    refine g_callVp (Y := YX7_isHere) sv_X7_220 rfl yn_X7_isHere 9 (by decide) rfl rfl dX7_read_24 (k_isHere hTx pR_ok) h0 rfl rfl rfl (Nat.le_of_ble_eq_true rfl) ⟨rfl, rfl⟩ ?_
    refine g_if_eq (tgt := 47) dX7_read_27 (by decide) (fun b1 => ?_) (fun b1 => ?_)
    · refine parsed V2 k hr ⟨hm, fun q => ci_eq b1 ?_⟩ b13 b14 bq
      have := (hr_ch (tx := S.2.2.2.2.1) (n := S.2.2.2.2.2.1) _ (nI 59)).mpr q.2
      rw [q.1]
      exact this
    have hh := ci_ne b1
    have hok : (oK S.2.2.2.2.1 S.2.2.2.2.2.1 (pK S.2.2.2.2.1 S.2.2.2.2.2.1 k)).1 = true := by
      have := hh.1
      revert this
      cases (oK S.2.2.2.2.1 S.2.2.2.2.2.1 (pK S.2.2.2.2.1 S.2.2.2.2.2.1 k)).1 with
      | true => intro _; rfl
      | false => intro q; cases q
    have hmk : more S.2.2.2.2.1 S.2.2.2.2.2.1 k := ⟨hok, (hr_ch _ (nI 59)).mp (by have h2 := hh; rw [hok] at h2; exact h2)⟩
    have hm1 : ∀ j, j < k + 1 → more S.2.2.2.2.1 S.2.2.2.2.2.1 j := fun j hj => by
      rcases Nat.lt_or_ge j k with y | y
      · exact hm j y
      · rw [show j = k by omega]
        exact hmk
    obtain ⟨p3, p4⟩ := pK_le hm1
    obtain ⟨c17, cq⟩ := bq hok
    refine g_aload_n dX7_read_30 rfl ?_
    refine g_dup dX7_read_31 rfl ?_
    refine g_get 9 rfl (by decide) inX7 13 (by decide) fl_X7_217 dX7_read_32 h0 b13 ?_
    refine g_iconst (v := nI 1) dX7_read_35 (by decide) ?_
    refine g_iadd dX7_read_36 ?_
    rw [nI_add]
    refine g_put 9 rfl (by decide) inX7 tyX7 tyX7_ok nmX7 13 (by decide) fl_X7_217 rfl dX7_read_37 h0 rfl rfl ?_
    have hr3 : Ro V (hu V2 m 13 (.int (nI ((oK S.2.2.2.2.1 S.2.2.2.2.2.1 (pK S.2.2.2.2.1 S.2.2.2.2.2.1 k)).2.1 + 1)))) m := hr.fd (by omega)
    have d13 : hu V2 m 13 (.int (nI ((oK S.2.2.2.2.1 S.2.2.2.2.2.1 (pK S.2.2.2.2.1 S.2.2.2.2.2.1 k)).2.1 + 1))) m 13 = .int (nI (pK S.2.2.2.2.1 S.2.2.2.2.2.1 (k + 1))) := hu_at _ _ _ _
    have d14 : hu V2 m 13 (.int (nI ((oK S.2.2.2.2.1 S.2.2.2.2.2.1 (pK S.2.2.2.2.1 S.2.2.2.2.2.1 k)).2.1 + 1))) m 14 = .int (bi (false = true)) := (hu_at_ne _ _ _ (by decide)).trans (by rw [b14, hok]; rfl)
    have d17 : hu V2 m 13 (.int (nI ((oK S.2.2.2.2.1 S.2.2.2.2.2.1 (pK S.2.2.2.2.1 S.2.2.2.2.2.1 k)).2.1 + 1))) m 17 = .int (nI (k + 1)) := (hu_at_ne _ _ _ (by decide)).trans c17
    have dq : ∀ j, j ≤ k → Oq (hu V2 m 13 (.int (nI ((oK S.2.2.2.2.1 S.2.2.2.2.2.1 (pK S.2.2.2.2.1 S.2.2.2.2.2.1 k)).2.1 + 1)))) m j (ordK S.2.2.2.2.1 S.2.2.2.2.2.1 j) := fun j hj => by
      obtain ⟨x1, x2, x3, x4⟩ := cq j hj
      have e7 : hu V2 m 13 (.int (nI ((oK S.2.2.2.2.1 S.2.2.2.2.2.1 (pK S.2.2.2.2.1 S.2.2.2.2.2.1 k)).2.1 + 1))) (m + 7) = V2 (m + 7) := hu_ne _ _ _ (by omega)
      unfold Oq
      rw [e7]
      exact ⟨x1, x2, x3, x4⟩
    generalize hu V2 m 13 (.int (nI ((oK S.2.2.2.2.1 S.2.2.2.2.2.1 (pK S.2.2.2.2.1 S.2.2.2.2.2.1 k)).2.1 + 1))) = V3 at hr3 d13 d14 d17 dq ⊢
    refine g_aload_n dX7_read_40 rfl ?_
    refine g_callVv (Y := YX7_readOrder) sv_X7_251 rfl yn_X7_readOrder 9 (by decide) rfl rfl dX7_read_41 (k_readOrder (P := pV (fun V4 => Ro V3 V4 m ∧ V4 m 13 = .int (nI (oK S.2.2.2.2.1 S.2.2.2.2.2.1 (pK S.2.2.2.2.1 S.2.2.2.2.2.1 (k + 1))).2.1) ∧ V4 m 14 = .int (bi ((!(oK S.2.2.2.2.1 S.2.2.2.2.2.1 (pK S.2.2.2.2.1 S.2.2.2.2.2.1 (k + 1))).1) = true)) ∧ ((oK S.2.2.2.2.1 S.2.2.2.2.2.1 (pK S.2.2.2.2.1 S.2.2.2.2.2.1 (k + 1))).1 = true → V4 m 17 = .int (nI (k + 1 + 1)) ∧ Oq V4 m (k + 1) (oK S.2.2.2.2.1 S.2.2.2.2.2.1 (pK S.2.2.2.2.1 S.2.2.2.2.2.1 (k + 1))).2.2 ∧ ∀ j, j < 4 * (k + 1) → V4 (m + 7) j = V3 (m + 7) j)) sh sz) (hT hr3 p3 d13 d14) s7 ((hr3.2 16 (by decide) (by decide) (by decide)).trans v16) d17 (by omega) (fun V' a b c d => ⟨rfl, rfl, rfl, a, b, c, d⟩)) h0 rfl rfl rfl (Nat.le_of_ble_eq_true rfl) ⟨rfl, rfl⟩ (fun V4 q => ?_)
    obtain ⟨a1, a2, a3, a4⟩ := q
    have ih := ih (k + 1) (by omega) hm1 V4 (hr3.trans a1) a2 a3 (fun q => ⟨(a4 q).1, fun j hj => by
      rcases Nat.lt_or_ge j (k + 1) with y | y
      · obtain ⟨x1, x2, x3, x4⟩ := dq j (by omega)
        have e := (a4 q).2.2
        exact ⟨(e _ (by omega)).trans x1, (e _ (by omega)).trans x2, (e _ (by omega)).trans x3, (e _ (by omega)).trans x4⟩
      · rw [show j = k + 1 by omega]
        exact (a4 q).2.1⟩)
    refine g_jump (tgt := 19) dX7_read_44 (by decide) ?_
    exact ih
end REF21

