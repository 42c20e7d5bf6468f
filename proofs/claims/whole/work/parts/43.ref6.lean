/-! the reference's whole state; keep, ends, fails, refuse -/
section REF6
/-- all but the row, the exception and the mark of a refusal -/
def MR (sh : Sh) (V : Vl) (m : Nat) (S : St) : Prop :=
  (sh (m + 2) = (20, 164) ∧ sh (m + 3) = (20, 164) ∧ sh (m + 4) = (20, 164) ∧ sh (m + 5) = (20, 1312) ∧ sh (m + 6) = (21, 60) ∧ sh (m + 7) = (20, 240)) ∧
  (V m 1 = .ref (m + 2) ∧ V m 2 = .ref (m + 3) ∧ V m 3 = .ref (m + 4) ∧ V m 4 = .int (bi (S.2.1.isSome = true)) ∧ V m 5 = .ref (m + 5) ∧ V m 6 = .int (nI S.2.2.2.1) ∧ V m 8 = .int S.2.2.2.2.2.2.2.1 ∧ V m 9 = .int S.2.2.2.2.2.2.2.2 ∧ V m 11 = .ref (m + 6) ∧ V m 12 = .int (nI S.2.2.2.2.2.1) ∧ V m 15 = .int S.2.2.2.2.2.2.1 ∧ V m 16 = .ref (m + 7)) ∧
  (∀ g, S.2.1 = some g → ∀ k, k < 164 → V (m + 4) k = .int (g k)) ∧ (∀ i, i < S.2.2.2.1 → ∀ k, k < 164 → V (m + 5) (164 * i + k) = .int (S.2.2.1 i k)) ∧ (∀ k, k < S.2.2.2.2.2.1 → V (m + 6) k = .int (S.2.2.2.2.1 k)) ∧ S.2.2.2.1 ≤ 8 ∧ S.2.2.2.2.2.1 ≤ 60
def MB (sh : Sh) (V : Vl) (m : Nat) (f : Fl) (th r : Int32) (S : St) : Prop := SA sh V m f ∧ MR sh V m S ∧ V m 7 = .int th ∧ V m 10 = .int r
def MS (sh : Sh) (V : Vl) (m : Nat) (S : St) (th : Int32) : Prop := ∃ r, MB sh V m S.1 th r S
/-- the reference's own cells alone may change -/
def Mf (V V' : Vl) (m : Nat) : Prop := ∀ a, ¬ (m ≤ a ∧ a < m + 8) → V' a = V a
/-- what was kept -/
def Bk (V : Vl) (m : Nat) (b : Fl) : Prop := ∀ k, k < 164 → V (m + 2) k = .int (b k)
variable {E : gE} {M : gM} {P : gP} {sh : Sh} {sz : Nat} {V V' : Vl} {cu su pc : Nat} {L : List (Option Value)} {rest : List Value} {m : Nat} {f g b : Fl} {th r : Int32} {S : St}
theorem MR.keep (h : MR sh V m S) (hj : ∀ j, j < 17 → j ≠ 7 → j ≠ 10 → j ≠ 13 → j ≠ 14 → V' m j = V m j) (h4 : V' (m + 4) = V (m + 4)) (h5 : V' (m + 5) = V (m + 5)) (h6 : V' (m + 6) = V (m + 6)) : MR sh V' m S := by
  obtain ⟨s, ⟨v1, v2, v3, v4, v5, v6, v8, v9, v11, v12, v15, v16⟩, a, b, c, d⟩ := h
  refine ⟨s, ⟨?_, ?_, ?_, ?_, ?_, ?_, ?_, ?_, ?_, ?_, ?_, ?_⟩, by rw [h4]; exact a, by rw [h5]; exact b, by rw [h6]; exact c, d⟩
  all_goals rw [hj _ (by decide) (by decide) (by decide) (by decide) (by decide)]; assumption
theorem MR.ref {z : Int32 × Int32} (h : MR sh V m S) (hj : ∀ j, j < 17 → j ≠ 7 → j ≠ 8 → j ≠ 9 → j ≠ 10 → j ≠ 13 → j ≠ 14 → V' m j = V m j) (h8 : V' m 8 = .int z.1) (h9 : V' m 9 = .int z.2) (hm : ∀ a, a ≠ m → V' a = V a) : MR sh V' m (refu S z) := by
  obtain ⟨s, ⟨v1, v2, v3, v4, v5, v6, v8, v9, v11, v12, v15, v16⟩, a, b, c, d⟩ := h
  refine ⟨s, ⟨?_, ?_, ?_, ?_, ?_, ?_, h8, h9, ?_, ?_, ?_, ?_⟩, by rw [hm _ (by omega)]; exact a, by rw [hm _ (by omega)]; exact b, by rw [hm _ (by omega)]; exact c, d⟩
  all_goals rw [hj _ (by decide) (by decide) (by decide) (by decide) (by decide) (by decide) (by decide)]; assumption
theorem SA.keep (h : SA sh V m f) (h0 : V' m 0 = V m 0) (h1 : V' (m + 1) = V (m + 1)) : SA sh V' m f := ⟨h.1, h.2.1, h0.trans h.2.2.1, fun k hk => by rw [h1]; exact h.2.2.2 k hk⟩
/-- a field of the object alone -/
theorem MB.put {j : Nat} {v : Value} (h : MB sh V m f th r S) (hj : j = 13 ∨ j = 14 ∨ j = 17) : MB sh (hu V m j v) m f th r S :=
  ⟨h.1.keep (hu_at_ne _ _ _ (by omega)) (hu_ne _ _ _ (by omega)), h.2.1.keep (fun i h1 h2 h3 h4 h5 => hu_at_ne _ _ _ (by omega)) (hu_ne _ _ _ (by omega)) (hu_ne _ _ _ (by omega)) (hu_ne _ _ _ (by omega)), (hu_at_ne _ _ _ (by omega)).trans h.2.2.1, (hu_at_ne _ _ _ (by omega)).trans h.2.2.2⟩
theorem MB.thr {x : Int32} (h : MB sh V m f th r S) : MB sh (hu V m 7 (.int x)) m f x r S :=
  ⟨h.1.keep (hu_at_ne _ _ _ (by omega)) (hu_ne _ _ _ (by omega)), h.2.1.keep (fun i h1 h2 h3 h4 h5 => hu_at_ne _ _ _ (by omega)) (hu_ne _ _ _ (by omega)) (hu_ne _ _ _ (by omega)) (hu_ne _ _ _ (by omega)), hu_at _ _ _ _, (hu_at_ne _ _ _ (by omega)).trans h.2.2.2⟩
theorem MB.isr {x : Int32} (h : MB sh V m f th r S) : MB sh (hu V m 10 (.int x)) m f th x S :=
  ⟨h.1.keep (hu_at_ne _ _ _ (by omega)) (hu_ne _ _ _ (by omega)), h.2.1.keep (fun i h1 h2 h3 h4 h5 => hu_at_ne _ _ _ (by omega)) (hu_ne _ _ _ (by omega)) (hu_ne _ _ _ (by omega)) (hu_ne _ _ _ (by omega)), (hu_at_ne _ _ _ (by omega)).trans h.2.2.1, hu_at _ _ _ _⟩
/-- the row alone -/
theorem MB.row (h : MB sh V m f th r S) (hw : Mw V V' m) (hS : SA sh V' m g) : MB sh V' m g th r S :=
  ⟨hS, h.2.1.keep (fun i h1 h2 h3 h4 h5 => congrFun (hw m (by omega)) i) (hw _ (by omega)) (hw _ (by omega)) (hw _ (by omega)), (congrFun (hw m (by omega)) 7).trans h.2.2.1, (congrFun (hw m (by omega)) 10).trans h.2.2.2⟩
theorem cpy_in {α : Type} {p q : Nat → α} {sp dp n k : Nat} (h1 : dp ≤ k) (h2 : k < dp + n) : va_cpy p q sp dp n k = p (sp + (k - dp)) := if_pos ⟨h1, h2⟩
theorem cpy_out {α : Type} {p q : Nat → α} {sp dp n k : Nat} (h : ¬ (dp ≤ k ∧ k < dp + n)) : va_cpy p q sp dp n k = q k := if_neg h
/-- the row is copied from another -/
theorem SA.copy {a : Nat} (h : SA sh V m f) (ha : a ≠ m + 1) (hb : ∀ k, k < 164 → V a k = .int (b k)) : SA sh (hn V (m + 1) (va_cpy (V a) (V (m + 1)) 0 0 164)) m b :=
  ⟨h.1, h.2.1, by rw [hn_ne _ _ (by omega)]; exact h.2.2.1, fun k hk => by rw [hn_at, cpy_in (by omega) (by omega), show 0 + (k - 0) = k by omega]; exact hb k hk⟩
theorem k_keep (h : MB sh V m f th r S) (hP : ∀ V', (∀ a, a ≠ m → a ≠ m + 2 → V' a = V a) → (∀ j, j ≠ 7 → V' m j = V m j) → MB sh V' m f 0 r S → Bk V' m f → P (.inl none) sh sz V') : MC E YX7_keep [.ref m] sh sz V P := by
  obtain ⟨⟨h0, h1, h2, h3⟩, hR, h7, h10⟩ := id h
  obtain ⟨⟨s2, s3, s4, s5, s6, s7⟩, ⟨v1, v2, v3, v4, v5, v6, v8, v9, v11, v12, v15, v16⟩, -⟩ := id hR
  refine MC.of RX7 "keep" rfl (by decide +kernel) rfl 0 [_] rfl (Nat.le_of_ble_eq_true rfl) ?_
  show G E MX7_keep _ _ _ _ _ _ _ _ _
  refine g_aload_n dX7_keep_0 rfl ?_
  refine g_iconst (v := nI 0) dX7_keep_1 (by decide) ?_
  refine g_put 9 rfl (by decide) inX7 tyX7 tyX7_ok nmX7 7 (by decide) fl_X7_45 rfl dX7_keep_2 h0 rfl rfl ?_
  have hM := MB.thr (x := nI 0) h
  refine g_aload_n dX7_keep_5 rfl ?_
  refine g_get 9 rfl (by decide) inX7 0 (by decide) fl_X7_9 dX7_keep_6 h0 ((hu_at_ne _ _ _ (by decide)).trans h2) ?_
  refine g_iconst (v := nI 0) dX7_keep_9 (by decide) ?_
  refine g_aload_n dX7_keep_10 rfl ?_
  refine g_get 9 rfl (by decide) inX7 1 (by decide) fl_X7_13 dX7_keep_11 h0 ((hu_at_ne _ _ _ (by decide)).trans v1) ?_
  refine g_iconst (v := nI 0) dX7_keep_14 (by decide) ?_
  refine g_sipush (v := nI 164) dX7_keep_15 (by decide) ?_
  refine g_acopy (sp := 0) (dp := 0) (n := 164) ml_X7_48 wn_acopy wt_acopy wi_sys dX7_keep_18 h1 s2 (by omega) (by omega) (by decide) (by decide) (fun i hi => ⟨f i, by rw [hu_ne _ _ _ (by omega), Nat.zero_add]; exact h3 i hi⟩) (Nat.le_of_ble_eq_true rfl) (Nat.le_of_ble_eq_true rfl) ?_
  have e : ∀ a, a ≠ m + 2 → hn (hu V m 7 (.int (nI 0))) (m + 2) (va_cpy (hu V m 7 (.int (nI 0)) (m + 1)) (hu V m 7 (.int (nI 0)) (m + 2)) 0 0 164) a = hu V m 7 (.int (nI 0)) a := fun a ha => hn_ne _ _ ha
  exact g_vret rfl dX7_keep_21 (by decide) (hP _ (fun a h1 h2 => (e a h2).trans (hu_ne _ _ _ h1)) (fun j hj => (congrFun (e m (by omega)) j).trans (hu_at_ne _ _ _ hj)) ⟨hM.1.keep (congrFun (e m (by omega)) 0) (e _ (by omega)), hM.2.1.keep (fun j _ _ _ _ _ => congrFun (e m (by omega)) j) (e _ (by omega)) (e _ (by omega)) (e _ (by omega)), (congrFun (e m (by omega)) 7).trans hM.2.2.1, (congrFun (e m (by omega)) 10).trans hM.2.2.2⟩ (fun k hk => by rw [hn_at, cpy_in (by omega) (by omega), show 0 + (k - 0) = k by omega, hu_ne _ _ _ (by omega)]; exact h3 k hk))
theorem k_fails {x : Int32} (h : (sh m).1 = 10) (hP : P (.inl (some (.int (nI 0)))) sh sz (hu V m 7 (.int x))) : MC E YX7_fails [.ref m, .int x] sh sz V P := by
  refine MC.of RX7 "fails" rfl (by decide +kernel) rfl 0 [_, _] rfl (Nat.le_of_ble_eq_true rfl) ?_
  show G E MX7_fails _ _ _ _ _ _ _ _ _
  refine g_aload_n dX7_fails_0 rfl ?_
  refine g_iload_n dX7_fails_1 rfl ?_
  refine g_put 9 rfl (by decide) inX7 tyX7 tyX7_ok nmX7 7 (by decide) fl_X7_45 rfl dX7_fails_2 h rfl rfl ?_
  refine g_iconst (v := nI 0) dX7_fails_5 (by decide) ?_
  exact g_iret rfl (nr_int _) dX7_fails_6 (by decide) hP
theorem k_refuse {x y z : Int32} (h : MB sh V m f th r S) (hP : ∀ V', (∀ a, a ≠ m → V' a = V a) → (∀ j, j ≠ 7 → j ≠ 8 → j ≠ 9 → j ≠ 10 → V' m j = V m j) → MB sh V' m f x (nI 1) (refu S (y, z)) → P (.inl (some (.int (nI 0)))) sh sz V') : MC E YX7_refuse [.ref m, .int x, .int y, .int z] sh sz V P := by
  have h0 := h.1.1
  refine MC.of RX7 "refuse" rfl (by decide +kernel) rfl 0 [_, _, _, _] rfl (Nat.le_of_ble_eq_true rfl) ?_
  show G E MX7_refuse _ _ _ _ _ _ _ _ _
  refine g_aload_n dX7_refuse_0 rfl ?_
  refine g_iload_n dX7_refuse_1 rfl ?_
  refine g_put 9 rfl (by decide) inX7 tyX7 tyX7_ok nmX7 7 (by decide) fl_X7_45 rfl dX7_refuse_2 h0 rfl rfl ?_
  refine g_aload_n dX7_refuse_5 rfl ?_
  refine g_iload_n dX7_refuse_6 rfl ?_
  refine g_put 9 rfl (by decide) inX7 tyX7 tyX7_ok nmX7 8 (by decide) fl_X7_57 rfl dX7_refuse_7 h0 rfl rfl ?_
  refine g_aload_n dX7_refuse_10 rfl ?_
  refine g_iload_n dX7_refuse_11 rfl ?_
  refine g_put 9 rfl (by decide) inX7 tyX7 tyX7_ok nmX7 9 (by decide) fl_X7_60 rfl dX7_refuse_12 h0 rfl rfl ?_
  refine g_aload_n dX7_refuse_15 rfl ?_
  refine g_iconst (v := nI 1) dX7_refuse_16 (by decide) ?_
  refine g_put 9 rfl (by decide) inX7 tyX7 tyX7_ok nmX7 10 (by decide) fl_X7_63 rfl dX7_refuse_17 h0 rfl rfl ?_
  have e : ∀ a, a ≠ m → hu (hu (hu (hu V m 7 (.int x)) m 8 (.int y)) m 9 (.int z)) m 10 (.int (nI 1)) a = V a := fun a ha => (hu_ne _ _ _ ha).trans ((hu_ne _ _ _ ha).trans ((hu_ne _ _ _ ha).trans (hu_ne _ _ _ ha)))
  have e2 : ∀ j, j ≠ 7 → j ≠ 8 → j ≠ 9 → j ≠ 10 → hu (hu (hu (hu V m 7 (.int x)) m 8 (.int y)) m 9 (.int z)) m 10 (.int (nI 1)) m j = V m j := fun j a b c d => (hu_at_ne _ _ _ d).trans ((hu_at_ne _ _ _ c).trans ((hu_at_ne _ _ _ b).trans (hu_at_ne _ _ _ a)))
  refine g_iconst (v := nI 0) dX7_refuse_20 (by decide) ?_
  exact g_iret rfl (nr_int _) dX7_refuse_21 (by decide) (hP _ e e2 ⟨h.1.keep (e2 0 (by decide) (by decide) (by decide) (by decide)) (e _ (by omega)), h.2.1.ref (fun j _ h1 h2 h3 h4 _ _ => e2 j h1 h2 h3 h4) ((hu_at_ne _ _ _ (by decide)).trans ((hu_at_ne _ _ _ (by decide)).trans (hu_at _ _ _ _))) ((hu_at_ne _ _ _ (by decide)).trans (hu_at _ _ _ _)) e, (hu_at_ne _ _ _ (by decide)).trans ((hu_at_ne _ _ _ (by decide)).trans ((hu_at_ne _ _ _ (by decide)).trans (hu_at _ _ _ _))), hu_at _ _ _ _⟩)
end REF6

