/-! the reference: a call ends -/
section REF7
variable {E : gE} {M : gM} {P : gP} {sh : Sh} {sz : Nat} {V V' : Vl} {cu su pc : Nat} {L : List (Option Value)} {rest : List Value} {m : Nat} {f g b : Fl} {th r : Int32} {S : St}
/-- what was kept goes to the past -/
def pst (S : St) (b : Fl) : St := (S.1, S.2.1, pH S.2.2.1 S.2.2.2.1 b, pC S.2.2.2.1, S.2.2.2.2)
theorem MR.past {F : Nat → Value} {n : Nat} (h : MR sh V m S) (hn6 : n = pC S.2.2.2.1) (hF : ∀ i, i < n → ∀ k, k < 164 → F (164 * i + k) = .int (pH S.2.2.1 S.2.2.2.1 b i k)) (h5 : V' (m + 5) = F) (h6 : V' m 6 = .int (nI n)) (hj : ∀ j, j ≠ 6 → V' m j = V m j) (ho : ∀ a, a ≠ m → a ≠ m + 5 → V' a = V a) : MR sh V' m (pst S b) := by
  obtain ⟨s, ⟨v1, v2, v3, v4, v5, v6, v8, v9, v11, v12, v15, v16⟩, a, b', c, d1, d2⟩ := h
  refine ⟨s, ⟨?_, ?_, ?_, ?_, ?_, by rw [h6, hn6]; rfl, ?_, ?_, ?_, ?_, ?_, ?_⟩, by rw [ho _ (by omega) (by omega)]; exact a, fun i hi => by rw [h5]; exact hF i (by rw [hn6]; exact hi), by rw [ho _ (by omega) (by omega)]; exact c, ?_, d2⟩
  all_goals first | (rw [hj _ (by decide)]; assumption) | skip
  show pC S.2.2.2.1 ≤ 8
  unfold pC
  split <;> omega
set_option maxRecDepth 100000 in
theorem k_ends {a : Int32} (h : MB sh V m g th r S) (hb : Bk V m b) (hP1 : 0 < th → ∀ V', Mf V V' m → MB sh V' m b th r S → P (.inl (some (.int (nI 0)))) sh sz V') (hP2 : ¬ 0 < th → ∀ V', Mf V V' m → MB sh V' m g th r (pst S b) → P (.inl (some (.int a))) sh sz V') : MC E YX7_ends [.ref m, .int a] sh sz V P := by
  obtain ⟨⟨h0, h1, h2, h3⟩, hR, h7, h10⟩ := id h
  obtain ⟨⟨s2, s3, s4, s5, s6, s7⟩, ⟨v1, v2, v3, v4, v5, v6, v8, v9, v11, v12, v15, v16⟩, ha, hp, ht, hc, hl⟩ := id hR
  refine MC.of RX7 "ends" rfl (by decide +kernel) rfl 0 [_, _] rfl (Nat.le_of_ble_eq_true rfl) ?_
  show G E MX7_ends _ _ _ _ _ _ _ _ _
  refine g_aload_n dX7_ends_0 rfl ?_
  refine g_get 9 rfl (by decide) inX7 7 (by decide) fl_X7_45 dX7_ends_1 h0 h7 ?_
  refine g_if_le (tgt := 25) dX7_ends_4 (by decide) (fun b1 => ?_) (fun b1 => ?_)
  rotate_left
  · have b1 := Int32.not_le.mp b1
    refine g_aload_n dX7_ends_7 rfl ?_
    refine g_get 9 rfl (by decide) inX7 1 (by decide) fl_X7_13 dX7_ends_8 h0 v1 ?_
    refine g_iconst (v := nI 0) dX7_ends_11 (by decide) ?_
    refine g_aload_n dX7_ends_12 rfl ?_
    refine g_get 9 rfl (by decide) inX7 0 (by decide) fl_X7_9 dX7_ends_13 h0 h2 ?_
    refine g_iconst (v := nI 0) dX7_ends_16 (by decide) ?_
    refine g_sipush (v := nI 164) dX7_ends_17 (by decide) ?_
    refine g_acopy (sp := 0) (dp := 0) (n := 164) ml_X7_48 wn_acopy wt_acopy wi_sys dX7_ends_20 s2 h1 (by omega) (by omega) (by decide) (by decide) (fun i hi => ⟨b i, by rw [Nat.zero_add]; exact hb i hi⟩) (Nat.le_of_ble_eq_true rfl) (Nat.le_of_ble_eq_true rfl) ?_
    have e : ∀ x, x ≠ m + 1 → hn V (m + 1) (va_cpy (V (m + 2)) (V (m + 1)) 0 0 164) x = V x := fun x hx => hn_ne _ _ hx
    refine g_iconst (v := nI 0) dX7_ends_23 (by decide) ?_
    exact g_iret rfl (nr_int _) dX7_ends_24 (by decide) (hP1 b1 _ (fun x hx => e x (by omega)) (h.row (g := b) (fun x hx => e x hx) (h.1.copy (by omega) hb)))
  have hP2 := hP2 (Int32.not_lt.mpr b1)
  -- the second half
  have last : ∀ (V1 : Vl) (n : Nat), n < 8 → (∀ x, x ≠ m → x ≠ m + 5 → V1 x = V x) → (∀ j, j ≠ 6 → V1 m j = V m j) → V1 m 6 = .int (nI n) → n + 1 = pC S.2.2.2.1 → (∀ i, i < n → ∀ k, k < 164 → V1 (m + 5) (164 * i + k) = .int (pH S.2.2.1 S.2.2.2.1 b i k)) → pH S.2.2.1 S.2.2.2.1 b n = b → G E MX7_ends P sh sz V1 0 0 62 [some (.ref m), some (.int a)] [] := by
    intro V1 n hnn w1 w2 w3 hpc w4 w5
    have u1 : V1 m 1 = .ref (m + 2) := (w2 _ (by decide)).trans v1
    have u5 : V1 m 5 = .ref (m + 5) := (w2 _ (by decide)).trans v5
    refine g_aload_n dX7_ends_62 rfl ?_
    refine g_get 9 rfl (by decide) inX7 1 (by decide) fl_X7_13 dX7_ends_63 h0 u1 ?_
    refine g_iconst (v := nI 0) dX7_ends_66 (by decide) ?_
    refine g_aload_n dX7_ends_67 rfl ?_
    refine g_get 9 rfl (by decide) inX7 5 (by decide) fl_X7_22 dX7_ends_68 h0 u5 ?_
    refine g_sipush (v := nI 164) dX7_ends_71 (by decide) ?_
    refine g_aload_n dX7_ends_74 rfl ?_
    refine g_get 9 rfl (by decide) inX7 6 (by decide) fl_X7_54 dX7_ends_75 h0 w3 ?_
    refine g_imul dX7_ends_78 ?_
    refine g_sipush (v := nI 164) dX7_ends_79 (by decide) ?_
    rw [pk_mul]
    refine g_acopy (sp := 0) (dp := (164 * n)) (n := 164) ml_X7_48 wn_acopy wt_acopy wi_sys dX7_ends_82 s2 s5 (by omega) (by omega) (by decide) (by decide) (fun i hi => ⟨b i, by rw [Nat.zero_add, w1 _ (by omega) (by omega)]; exact hb i hi⟩) (Nat.le_of_ble_eq_true rfl) (Nat.le_of_ble_eq_true rfl) ?_
    have e : ∀ x, x ≠ m + 5 → hn V1 (m + 5) (va_cpy (V1 (m + 2)) (V1 (m + 5)) 0 (164 * n) 164) x = V1 x := fun x hx => hn_ne _ _ hx
    refine g_aload_n dX7_ends_85 rfl ?_
    refine g_dup dX7_ends_86 rfl ?_
    refine g_get 9 rfl (by decide) inX7 6 (by decide) fl_X7_54 dX7_ends_87 h0 ((congrFun (e m (by omega)) 6).trans w3) ?_
    refine g_iconst (v := nI 1) dX7_ends_90 (by decide) ?_
    refine g_iadd dX7_ends_91 ?_
    rw [nI_add]
    refine g_put 9 rfl (by decide) inX7 tyX7 tyX7_ok nmX7 6 (by decide) fl_X7_54 rfl dX7_ends_92 h0 rfl rfl ?_
    have x0 : ∀ x, x ≠ m → x ≠ m + 5 → hu (hn V1 (m + 5) (va_cpy (V1 (m + 2)) (V1 (m + 5)) 0 (164 * n) 164)) m 6 (.int (nI (n + 1))) x = V x := fun x q1 q2 => (hu_ne _ _ _ q1).trans ((e x q2).trans (w1 x q1 q2))
    have xm : ∀ j, j ≠ 6 → hu (hn V1 (m + 5) (va_cpy (V1 (m + 2)) (V1 (m + 5)) 0 (164 * n) 164)) m 6 (.int (nI (n + 1))) m j = V m j := fun j q => (hu_at_ne _ _ _ q).trans ((congrFun (e m (by omega)) j).trans (w2 j q))
    have hF := MR.past (b := b) (n := n + 1) (V' := hu (hn V1 (m + 5) (va_cpy (V1 (m + 2)) (V1 (m + 5)) 0 (164 * n) 164)) m 6 (.int (nI (n + 1)))) (F := va_cpy (V1 (m + 2)) (V1 (m + 5)) 0 (164 * n) 164) hR hpc (fun i hi k hk => by
      by_cases q : i = n
      · rw [q, cpy_in (by omega) (by omega), show 0 + (164 * n + k - 164 * n) = k by omega, w1 _ (by omega) (by omega), w5]
        exact hb k hk
      · rw [cpy_out (by omega)]
        exact w4 i (by omega) k hk) ((hu_ne _ _ _ (by omega)).trans (hn_at _ _ _)) (hu_at _ _ _ _) xm x0
    refine g_iload_n dX7_ends_95 rfl ?_
    exact g_iret rfl (nr_int _) dX7_ends_96 (by decide) (hP2 _ (fun x hx => x0 x (by omega) (by omega)) ⟨h.1.keep (xm 0 (by decide)) (x0 _ (by omega) (by omega)), hF, (xm 7 (by decide)).trans h7, (xm 10 (by decide)).trans h10⟩)
  refine g_aload_n dX7_ends_25 rfl ?_
  refine g_get 9 rfl (by decide) inX7 6 (by decide) fl_X7_54 dX7_ends_26 h0 v6 ?_
  by_cases h8 : S.2.2.2.1 = 8
  rotate_left
  · have ls := last V S.2.2.2.1 (by omega) (fun _ _ _ => rfl) (fun _ _ => rfl) v6 (by unfold pC; rw [if_pos (by omega)]) (fun i hi k hk => by
      have : pH S.2.2.1 S.2.2.2.1 b i = S.2.2.1 i := by
        unfold pH
        rw [if_pos (by omega), if_neg (by omega)]
      rw [this]
      exact hp i hi k hk) (by unfold pH; rw [if_pos (by omega), if_pos rfl])
    refine g_bipush (v := nI 8) dX7_ends_29 (by decide) ?_
    refine g_icmp_ne (tgt := 62) dX7_ends_31 (by decide) (fun _ => ?_) (fun hq => absurd hq ((fun q => h8 ((nI_eq (by omega) (by decide)).mp q))))
    exact ls
  · refine g_bipush (v := nI 8) dX7_ends_29 (by decide) ?_
    refine g_icmp_ne (tgt := 62) dX7_ends_31 (by decide) (fun hq => absurd hq ((fun q => q (by rw [h8])))) (fun _ => ?_)
    refine g_aload_n dX7_ends_34 rfl ?_
    refine g_get 9 rfl (by decide) inX7 5 (by decide) fl_X7_22 dX7_ends_35 h0 v5 ?_
    refine g_sipush (v := nI 164) dX7_ends_38 (by decide) ?_
    refine g_aload_n dX7_ends_41 rfl ?_
    refine g_get 9 rfl (by decide) inX7 5 (by decide) fl_X7_22 dX7_ends_42 h0 v5 ?_
    refine g_iconst (v := nI 0) dX7_ends_45 (by decide) ?_
    refine g_sipush (v := nI 1148) dX7_ends_46 (by decide) ?_
    refine g_acopy (sp := 164) (dp := 0) (n := 1148) ml_X7_48 wn_acopy wt_acopy wi_sys dX7_ends_49 s5 s5 (by omega) (by omega) (by decide) (by decide) (fun i hi => ⟨S.2.2.1 ((164 + i) / 164) ((164 + i) % 164), by have := hp ((164 + i) / 164) (by omega) ((164 + i) % 164) (by omega); rw [show 164 * ((164 + i) / 164) + (164 + i) % 164 = 164 + i by omega] at this; exact this⟩) (Nat.le_of_ble_eq_true rfl) (Nat.le_of_ble_eq_true rfl) ?_
    have e : ∀ x, x ≠ m + 5 → hn V (m + 5) (va_cpy (V (m + 5)) (V (m + 5)) 164 0 1148) x = V x := fun x hx => hn_ne _ _ hx
    refine g_aload_n dX7_ends_52 rfl ?_
    refine g_dup dX7_ends_53 rfl ?_
    refine g_get 9 rfl (by decide) inX7 6 (by decide) fl_X7_54 dX7_ends_54 h0 ((congrFun (e m (by omega)) 6).trans v6) ?_
    refine g_iconst (v := nI 1) dX7_ends_57 (by decide) ?_
    refine g_isub dX7_ends_58 ?_
    rw [h8, nI_m1n (by decide) (by decide)]
    refine g_put 9 rfl (by decide) inX7 tyX7 tyX7_ok nmX7 6 (by decide) fl_X7_54 rfl dX7_ends_59 h0 rfl rfl ?_
    have ls := last (hu (hn V (m + 5) (va_cpy (V (m + 5)) (V (m + 5)) 164 0 1148)) m 6 (.int (nI (8 - 1)))) 7 (by decide) (fun x q1 q2 => (hu_ne _ _ _ q1).trans (e x q2)) (fun j q => (hu_at_ne _ _ _ q).trans (congrFun (e m (by omega)) j)) (hu_at _ _ _ _) (by rw [h8]; rfl) (fun i hi k hk => by
      have : pH S.2.2.1 S.2.2.2.1 b i = S.2.2.1 (i + 1) := by
        unfold pH
        rw [if_neg (by omega), if_neg (by omega)]
      rw [this, hu_ne _ _ _ (by omega), hn_at, cpy_in (by omega) (by omega), show 164 + (164 * i + k - 0) = 164 * (i + 1) + k by omega]
      exact hp (i + 1) (by omega) k hk) (by unfold pH; rw [if_neg (by omega), if_pos rfl])
    exact ls
end REF7

