/-! copies of a road -/
section COPY
variable {E : gE} {M : gM} {P : gP} {sh : Sh} {sz : Nat} {V : Vl} {cu su pc : Nat} {L : List (Option Value)} {rest : List Value} {r o : Nat} {f g0 : Fl}
theorem c_Mile_copyFrom {a b : Nat} {ice noted on cr st oft : Int32} (ha : (sh a).1 = 5) (h : MiAt sh V b ice noted on cr st oft) (hab : a ≠ b) (hP : ∀ V', (∀ x, x ≠ a → V' x = V x) → (∀ k, k < 6 → V' a k = V b k) → P (.inl none) sh sz V') : MC E YX2_copyFrom [.ref a, .ref b] sh sz V P := by
  obtain ⟨m0, m1, m2, m3, m4, m5, m6⟩ := h
  have hba : b ≠ a := fun e => hab e.symm
  refine MC.of RX2 "copyFrom" rfl (by decide +kernel) rfl 0 [_, _] rfl (Nat.le_of_ble_eq_true rfl) ?_
  show G E MX2_copyFrom _ _ _ _ _ _ _ _ _
  refine g_aload_n dX2_copyFrom_0 rfl ?_
  refine g_aload_n dX2_copyFrom_1 rfl ?_
  refine g_get 4 rfl (by decide) inX2 0 (by decide) fl_X2_10 dX2_copyFrom_2 m0 m1 ?_
  refine g_put 4 rfl (by decide) inX2 tyX2 tyX2_ok nmX2 0 (by decide) fl_X2_10 rfl dX2_copyFrom_5 ha rfl rfl ?_
  refine g_aload_n dX2_copyFrom_8 rfl ?_
  refine g_aload_n dX2_copyFrom_9 rfl ?_
  refine g_get 4 rfl (by decide) inX2 1 (by decide) fl_X2_16 dX2_copyFrom_10 m0 ((congrFun (hu_ne _ _ _ hba) _).trans m2) ?_
  refine g_put 4 rfl (by decide) inX2 tyX2 tyX2_ok nmX2 1 (by decide) fl_X2_16 rfl dX2_copyFrom_13 ha rfl rfl ?_
  refine g_aload_n dX2_copyFrom_16 rfl ?_
  refine g_aload_n dX2_copyFrom_17 rfl ?_
  refine g_get 4 rfl (by decide) inX2 2 (by decide) fl_X2_19 dX2_copyFrom_18 m0 ((congrFun ((hu_ne _ _ _ hba).trans (hu_ne _ _ _ hba)) _).trans m3) ?_
  refine g_put 4 rfl (by decide) inX2 tyX2 tyX2_ok nmX2 2 (by decide) fl_X2_19 rfl dX2_copyFrom_21 ha rfl rfl ?_
  refine g_aload_n dX2_copyFrom_24 rfl ?_
  refine g_aload_n dX2_copyFrom_25 rfl ?_
  refine g_get 4 rfl (by decide) inX2 3 (by decide) fl_X2_23 dX2_copyFrom_26 m0 ((congrFun ((hu_ne _ _ _ hba).trans ((hu_ne _ _ _ hba).trans (hu_ne _ _ _ hba))) _).trans m4) ?_
  refine g_put 4 rfl (by decide) inX2 tyX2 tyX2_ok nmX2 3 (by decide) fl_X2_23 rfl dX2_copyFrom_29 ha rfl rfl ?_
  refine g_aload_n dX2_copyFrom_32 rfl ?_
  refine g_aload_n dX2_copyFrom_33 rfl ?_
  refine g_get 4 rfl (by decide) inX2 4 (by decide) fl_X2_26 dX2_copyFrom_34 m0 ((congrFun ((hu_ne _ _ _ hba).trans ((hu_ne _ _ _ hba).trans ((hu_ne _ _ _ hba).trans (hu_ne _ _ _ hba)))) _).trans m5) ?_
  refine g_put 4 rfl (by decide) inX2 tyX2 tyX2_ok nmX2 4 (by decide) fl_X2_26 rfl dX2_copyFrom_37 ha rfl rfl ?_
  refine g_aload_n dX2_copyFrom_40 rfl ?_
  refine g_aload_n dX2_copyFrom_41 rfl ?_
  refine g_get 4 rfl (by decide) inX2 5 (by decide) fl_X2_29 dX2_copyFrom_42 m0 ((congrFun ((hu_ne _ _ _ hba).trans ((hu_ne _ _ _ hba).trans ((hu_ne _ _ _ hba).trans ((hu_ne _ _ _ hba).trans (hu_ne _ _ _ hba))))) _).trans m6) ?_
  refine g_put 4 rfl (by decide) inX2 tyX2 tyX2_ok nmX2 5 (by decide) fl_X2_29 rfl dX2_copyFrom_45 ha rfl rfl ?_
  refine g_vret rfl dX2_copyFrom_48 (by decide) (hP _ (fun x hx => by simp only [hu_ne _ _ _ hx]) (fun k hk => ?_))
  rcases (show k = 0 ∨ k = 1 ∨ k = 2 ∨ k = 3 ∨ k = 4 ∨ k = 5 by omega) with rfl | rfl | rfl | rfl | rfl | rfl
  · simp [hu, updV, m1]
  · simp [hu, updV, m2]
  · simp [hu, updV, m3]
  · simp [hu, updV, m4]
  · simp [hu, updV, m5]
  · simp [hu, updV, m6]
theorem c_Convoy_copyFrom {a b n : Nat} {g ld : Int32} {tk : Nat → Int32 × Int32 × Int32} (ha : (sh a).1 = 3) (ha1 : sh (a + 1) = (24, 4)) (ha3 : V a 3 = .ref (a + 1)) (h : CvAt sh V b g ld n tk) (h1 : a ≠ b) (h2 : a + 1 ≠ b) (h3 : a ≠ b + 1) (hP : ∀ V', (∀ x, x ≠ a → x ≠ a + 1 → V' x = V x) → (∀ k, k < 3 → V' a k = V b k) → V' a 3 = V a 3 → (∀ k, k < 4 → V' (a + 1) k = V (b + 1) k) → P (.inl none) sh sz V') : MC E YX0_copyFrom [.ref a, .ref b] sh sz V P := by
  obtain ⟨c0, ca, c1, c2, c3, c4, c5, c6, c7⟩ := h
  have hba : b ≠ a := fun e => h1 e.symm
  refine MC.of RX0 "copyFrom" rfl (by decide +kernel) rfl 1 [_, _, none] rfl (Nat.le_of_ble_eq_true rfl) ?_
  show G E MX0_copyFrom _ _ _ _ _ _ _ _ _
  refine g_aload_n dX0_copyFrom_0 rfl ?_
  refine g_aload_n dX0_copyFrom_1 rfl ?_
  refine g_get 2 rfl (by decide) inX0 0 (by decide) fl_X0_9 dX0_copyFrom_2 c0 c1 ?_
  refine g_put 2 rfl (by decide) inX0 tyX0 tyX0_ok nmX0 0 (by decide) fl_X0_9 rfl dX0_copyFrom_5 ha rfl rfl ?_
  refine g_aload_n dX0_copyFrom_8 rfl ?_
  refine g_aload_n dX0_copyFrom_9 rfl ?_
  refine g_get 2 rfl (by decide) inX0 1 (by decide) fl_X0_15 dX0_copyFrom_10 c0 ((congrFun (hu_ne _ _ _ hba) _).trans c2) ?_
  refine g_put 2 rfl (by decide) inX0 tyX0 tyX0_ok nmX0 1 (by decide) fl_X0_15 rfl dX0_copyFrom_13 ha rfl rfl ?_
  refine g_aload_n dX0_copyFrom_16 rfl ?_
  refine g_aload_n dX0_copyFrom_17 rfl ?_
  refine g_get 2 rfl (by decide) inX0 2 (by decide) fl_X0_18 dX0_copyFrom_18 c0 ((congrFun ((hu_ne _ _ _ hba).trans (hu_ne _ _ _ hba)) _).trans c3) ?_
  refine g_put 2 rfl (by decide) inX0 tyX0 tyX0_ok nmX0 2 (by decide) fl_X0_18 rfl dX0_copyFrom_21 ha rfl rfl ?_
  refine g_iconst (v := nI 0) dX0_copyFrom_24 (by decide) ?_
  refine g_istore_n dX0_copyFrom_25 (by decide) rfl ?_
  show G _ _ _ _ _ _ _ _ _ [_, _, _] _
  have e0 : ∀ k, k < 3 → hu (hu (hu V a 0 (.int g)) a 1 (.int ld)) a 2 (.int (nI n)) a k = V b k := fun k hk => by
    rcases (show k = 0 ∨ k = 1 ∨ k = 2 by omega) with rfl | rfl | rfl
    · simp [hu, updV, c1]
    · simp [hu, updV, c2]
    · simp [hu, updV, c3]
  have e1 : ∀ x, x ≠ a → hu (hu (hu V a 0 (.int g)) a 1 (.int ld)) a 2 (.int (nI n)) x = V x := fun x hx => by simp only [hu_ne _ _ _ hx]
  have e2 : hu (hu (hu V a 0 (.int g)) a 1 (.int ld)) a 2 (.int (nI n)) a 3 = V a 3 := by simp [hu, updV]
  generalize hu (hu (hu V a 0 (.int g)) a 1 (.int ld)) a 2 (.int (nI n)) = V1 at e0 e1 e2 ⊢
  suffices K : ∀ (d i : Nat), i + d = 4 → ∀ V2, (∀ x, x ≠ a + 1 → V2 x = V1 x) → (∀ k, k < i → V2 (a + 1) k = V (b + 1) k) → G E MX0_copyFrom P sh sz V2 0 0 26 [some (.ref a), some (.ref b), some (.int (nI i))] [] from K 4 0 rfl V1 (fun _ _ => rfl) (fun k hk => absurd hk (Nat.not_lt_zero k))
  intro d
  induction d with
  | zero =>
    intro i hi V2 q1 q2
    have e : i = 4 := by omega
    subst e
    refine g_iload_n dX0_copyFrom_26 rfl ?_
    refine g_iconst (v := nI 4) dX0_copyFrom_27 (by decide) ?_
    refine g_icmp_ge (tgt := 49) dX0_copyFrom_28 (by decide) (fun _ => ?_) (fun hq => absurd (Int32.le_refl _) hq)
    exact g_vret rfl dX0_copyFrom_49 (by decide) (hP V2 (fun x hx hx2 => (q1 x hx2).trans (e1 x hx)) (fun k hk => by rw [q1 a (by omega)]; exact e0 k hk) (by rw [q1 a (by omega)]; exact e2) q2)
  | succ d ih =>
    intro i hi V2 q1 q2
    have w1 : V2 a 3 = .ref (a + 1) := by rw [q1 a (by omega), e2]; exact ha3
    have w2 : V2 b 3 = .ref (b + 1) := by rw [q1 b (by omega), e1 b (by omega)]; exact c4
    have w3 : V2 (b + 1) = V (b + 1) := by rw [q1 (b + 1) (by omega), e1 (b + 1) (by omega)]
    have hst : ∀ v : Value, V (b + 1) i = v → (∀ x, x ≠ a + 1 → hu V2 (a + 1) i v x = V1 x) ∧ ∀ k, k < i + 1 → hu V2 (a + 1) i v (a + 1) k = V (b + 1) k := fun v hv => ⟨fun x hx => (hu_ne _ _ _ hx).trans (q1 x hx), fun k hk => by
      by_cases z : k = i
      · subst z; rw [hu_at, hv]
      · rw [hu_at_ne _ _ _ z]; exact q2 k (by omega)⟩
    refine g_iload_n dX0_copyFrom_26 rfl ?_
    refine g_iconst (v := nI 4) dX0_copyFrom_27 (by decide) ?_
    refine g_icmp_ge (tgt := 49) dX0_copyFrom_28 (by decide) (fun hq => absurd hq (nI_ge (by omega) (by decide))) (fun _ => ?_)
    refine g_aload_n dX0_copyFrom_31 rfl ?_
    refine g_get 2 rfl (by decide) inX0 3 (by decide) fl_X0_23 dX0_copyFrom_32 ha w1 ?_
    refine g_iload_n dX0_copyFrom_35 rfl ?_
    refine g_aload_n dX0_copyFrom_36 rfl ?_
    refine g_get 2 rfl (by decide) inX0 3 (by decide) fl_X0_23 dX0_copyFrom_37 c0 w2 ?_
    refine g_iload_n dX0_copyFrom_40 rfl ?_
    rcases Nat.lt_or_ge i n with q | q
    · obtain ⟨t, f1, f2⟩ := c6 i q
      obtain ⟨s1, s2⟩ := hst _ f1
      refine g_aaload _ dX0_copyFrom_41 ca (by decide) (by decide) (vp_in_nI (by omega) (by decide)) (at_nI (by omega) ((congrFun w3 i).trans f1)) ?_
      refine g_aastore 24 7 rfl (by decide) rfl (by decide) (by decide) dX0_copyFrom_42 ha1 f2.1 (vp_in_nI (by omega) (by decide)) ?_
      rw [nI_clamp (by omega)]
      refine g_iinc dX0_copyFrom_43 rfl (by first | exact nI_inc _ | rfl) (by decide) rfl ?_
      show G _ _ _ _ _ _ _ _ _ [_, _, _] _
      refine g_jump (tgt := 26) dX0_copyFrom_46 (by decide) ?_
      exact ih (i + 1) (by omega) _ s1 s2
    · obtain ⟨s1, s2⟩ := hst _ (c7 i q (by omega))
      refine g_aaload _ dX0_copyFrom_41 ca (by decide) (by decide) (vp_in_nI (by omega) (by decide)) (at_nI (by omega) ((congrFun w3 i).trans (c7 i q (by omega)))) ?_
      refine g_aastoreN 24 rfl (by decide) (by decide) dX0_copyFrom_42 ha1 (vp_in_nI (by omega) (by decide)) ?_
      rw [nI_clamp (by omega)]
      refine g_iinc dX0_copyFrom_43 rfl (by first | exact nI_inc _ | rfl) (by decide) rfl ?_
      show G _ _ _ _ _ _ _ _ _ [_, _, _] _
      refine g_jump (tgt := 26) dX0_copyFrom_46 (by decide) ?_
      exact ih (i + 1) (by omega) _ s1 s2
/-- how far a copy has come -/
def Cp (V : Vl) (r o : Nat) (V' : Vl) (a y b c d : Nat) : Prop :=
  Fr V V' r ∧ (V' r 0 = .ref (r + 1) ∧ V' r 2 = .ref (r + 2) ∧ V' r 3 = .ref (r + 3) ∧ V' r 4 = .ref (r + 4)) ∧ ((∀ j, j < 12 → V' (r + 2) j = .ref (r + 5 + j)) ∧ (∀ j, j < 4 → V' (r + 4) j = .ref (r + 17 + 2 * j)) ∧ (∀ j, j < 4 → V' (r + 17 + 2 * j) 3 = .ref (r + 17 + 2 * j + 1))) ∧
  (∀ k, k < a → V' (r + 1) k = V (o + 1) k) ∧ (0 < y → V' r 1 = V o 1) ∧ (∀ j, j < b → ∀ k, k < 6 → V' (r + 5 + j) k = V (o + 5 + j) k) ∧ (∀ k, k < c → V' (r + 3) k = V (o + 3) k) ∧ ∀ j, j < d → (∀ k, k < 3 → V' (r + 17 + 2 * j) k = V (o + 17 + 2 * j) k) ∧ ∀ k, k < 4 → V' (r + 17 + 2 * j + 1) k = V (o + 17 + 2 * j + 1) k
theorem Cp.st {V V' : Vl} {a y b c d : Nat} (h : Cp V r o V' a y b c d) (ha : a < 3) {v : Value} (hv : V (o + 1) a = v) : Cp V r o (hu V' (r + 1) a v) (a + 1) y b c d := by
  obtain ⟨h1, ⟨n0, n2, n3, n4⟩, ⟨p1, p2, p3⟩, h3, h4, h5, h6, h7⟩ := h
  have e : ∀ x, x ≠ r + 1 → hu V' (r + 1) a v x = V' x := fun x hx => hu_ne _ _ _ hx
  refine ⟨h1.put (by omega) (by omega), by rw [e r (by omega)]; exact ⟨n0, n2, n3, n4⟩, ⟨fun j hj => by rw [e _ (by omega)]; exact p1 j hj, fun j hj => by rw [e _ (by omega)]; exact p2 j hj, fun j hj => by rw [e _ (by omega)]; exact p3 j hj⟩, fun k hk => ?_, by rw [e r (by omega)]; exact h4, fun j hj => by rw [e _ (by omega)]; exact h5 j hj, fun k hk => by rw [e _ (by omega)]; exact h6 k hk, fun j hj => by rw [e _ (by omega), e _ (by omega)]; exact h7 j hj⟩
  by_cases z : k = a
  · subst z; rw [hu_at, hv]
  · rw [hu_at_ne _ _ _ z]; exact h3 k (by omega)
theorem Cp.day {V V' : Vl} {a y b c d : Nat} (h : Cp V r o V' a y b c d) {v : Value} (hv : V o 1 = v) : Cp V r o (hu V' r 1 v) a 1 b c d := by
  obtain ⟨h1, ⟨n0, n2, n3, n4⟩, ⟨p1, p2, p3⟩, h3, h4, h5, h6, h7⟩ := h
  have e : ∀ x, x ≠ r → hu V' r 1 v x = V' x := fun x hx => hu_ne _ _ _ hx
  exact ⟨h1.put (by omega) (by omega), ⟨(hu_at_ne _ _ _ (by decide)).trans n0, (hu_at_ne _ _ _ (by decide)).trans n2, (hu_at_ne _ _ _ (by decide)).trans n3, (hu_at_ne _ _ _ (by decide)).trans n4⟩, ⟨fun j hj => by rw [e _ (by omega)]; exact p1 j hj, fun j hj => by rw [e _ (by omega)]; exact p2 j hj, fun j hj => by rw [e _ (by omega)]; exact p3 j hj⟩, fun k hk => by rw [e _ (by omega)]; exact h3 k hk, fun _ => by rw [hu_at, hv], fun j hj => by rw [e _ (by omega)]; exact h5 j hj, fun k hk => by rw [e _ (by omega)]; exact h6 k hk, fun j hj => by rw [e _ (by omega), e _ (by omega)]; exact h7 j hj⟩
theorem Cp.mi {V V' V2 : Vl} {a y b c d : Nat} (h : Cp V r o V' a y b c d) (hb : b < 12) (e : ∀ x, x ≠ r + 5 + b → V2 x = V' x) (hv : ∀ k, k < 6 → V2 (r + 5 + b) k = V (o + 5 + b) k) : Cp V r o V2 a y (b + 1) c d := by
  obtain ⟨h1, ⟨n0, n2, n3, n4⟩, ⟨p1, p2, p3⟩, h3, h4, h5, h6, h7⟩ := h
  refine ⟨h1.trans (fun x hx => e x (by omega)), by rw [e r (by omega)]; exact ⟨n0, n2, n3, n4⟩, ⟨fun j hj => by rw [e _ (by omega)]; exact p1 j hj, fun j hj => by rw [e _ (by omega)]; exact p2 j hj, fun j hj => by rw [e _ (by omega)]; exact p3 j hj⟩, fun k hk => by rw [e _ (by omega)]; exact h3 k hk, by rw [e r (by omega)]; exact h4, fun j hj => ?_, fun k hk => by rw [e _ (by omega)]; exact h6 k hk, fun j hj => by rw [e _ (by omega), e _ (by omega)]; exact h7 j hj⟩
  by_cases z : j = b
  · subst z; exact hv
  · rw [e _ (by omega)]; exact h5 j (by omega)
theorem Cp.rw {V V' : Vl} {a y b c d : Nat} (h : Cp V r o V' a y b c d) (hc : c < 10) {v : Value} (hv : V (o + 3) c = v) : Cp V r o (hu V' (r + 3) c v) a y b (c + 1) d := by
  obtain ⟨h1, ⟨n0, n2, n3, n4⟩, ⟨p1, p2, p3⟩, h3, h4, h5, h6, h7⟩ := h
  have e : ∀ x, x ≠ r + 3 → hu V' (r + 3) c v x = V' x := fun x hx => hu_ne _ _ _ hx
  refine ⟨h1.put (by omega) (by omega), by rw [e r (by omega)]; exact ⟨n0, n2, n3, n4⟩, ⟨fun j hj => by rw [e _ (by omega)]; exact p1 j hj, fun j hj => by rw [e _ (by omega)]; exact p2 j hj, fun j hj => by rw [e _ (by omega)]; exact p3 j hj⟩, fun k hk => by rw [e _ (by omega)]; exact h3 k hk, by rw [e r (by omega)]; exact h4, fun j hj => by rw [e _ (by omega)]; exact h5 j hj, fun k hk => ?_, fun j hj => by rw [e _ (by omega), e _ (by omega)]; exact h7 j hj⟩
  by_cases z : k = c
  · subst z; rw [hu_at, hv]
  · rw [hu_at_ne _ _ _ z]; exact h6 k (by omega)
theorem Cp.cv {V V' V2 : Vl} {a y b c d : Nat} (h : Cp V r o V' a y b c d) (hb : b ≤ 12) (hd : d < 4) (e : ∀ x, x ≠ r + 17 + 2 * d → x ≠ r + 17 + 2 * d + 1 → V2 x = V' x) (hv : ∀ k, k < 3 → V2 (r + 17 + 2 * d) k = V (o + 17 + 2 * d) k) (hv3 : V2 (r + 17 + 2 * d) 3 = V' (r + 17 + 2 * d) 3) (hv4 : ∀ k, k < 4 → V2 (r + 17 + 2 * d + 1) k = V (o + 17 + 2 * d + 1) k) : Cp V r o V2 a y b c (d + 1) := by
  obtain ⟨h1, ⟨n0, n2, n3, n4⟩, ⟨p1, p2, p3⟩, h3, h4, h5, h6, h7⟩ := h
  refine ⟨h1.trans (fun x hx => e x (by omega) (by omega)), by rw [e r (by omega) (by omega)]; exact ⟨n0, n2, n3, n4⟩, ⟨fun j hj => by rw [e _ (by omega) (by omega)]; exact p1 j hj, fun j hj => by rw [e _ (by omega) (by omega)]; exact p2 j hj, fun j hj => ?_⟩, fun k hk => by rw [e _ (by omega) (by omega)]; exact h3 k hk, by rw [e r (by omega) (by omega)]; exact h4, fun j hj => by rw [e _ (by omega) (by omega)]; exact h5 j hj, fun k hk => by rw [e _ (by omega) (by omega)]; exact h6 k hk, fun j hj => ?_⟩
  · by_cases z : j = d
    · subst z; rw [hv3]; exact p3 j hj
    · rw [e _ (by omega) (by omega)]; exact p3 j hj
  · by_cases z : j = d
    · subst z; exact ⟨hv, hv4⟩
    · rw [e _ (by omega) (by omega), e _ (by omega) (by omega)]; exact h7 j (by omega)
theorem rE_of {V V' : Vl} (h : rE sh V o f) (hT : Tr sh V V') (he : ∀ k, k < 10 → V' (r + 3) k = V (o + 3) k) : rE sh V' r f := fun k hk => by
  obtain ⟨h1, h2⟩ := h k hk
  rw [he k hk]
  exact ⟨h1, fun q => by
    obtain ⟨t, q1, q2⟩ := h2 q
    exact ⟨t, q1, q2.keep hT⟩⟩
/-- a road copied -/
theorem Cp.done {V V' : Vl} {y : Nat} (h : Cp V r o V' 3 y 12 10 4) (hy : 0 < y) (hR : RoadAt sh V r g0) (hO : RoadAt sh V o f) (h5 : V' r 5 = V o 5) (h6 : V' r 6 = V o 6) (h7 : V' r 7 = V o 7) (h8 : V' r 8 = V o 8) : RoadAt sh V' r f := by
  obtain ⟨c1, ⟨n0, n2, n3, n4⟩, ⟨p1, p2, p3⟩, q3, q4, q5, q6, q7⟩ := h
  have hT := hR.tr c1
  obtain ⟨b0, b1, b2, b3, b4, b5, b6, b7, b8⟩ := hO.2.1
  refine ⟨hR.1, ⟨n0, (q4 hy).trans b1, n2, n3, n4, h5.trans b5, h6.trans b6, h7.trans b7, h8.trans b8⟩, fun k hk => (q3 k hk).trans (hO.2.2.1 k hk), fun j hj => ⟨p1 j hj, ?_⟩, rE_of hO.2.2.2.2.1 hT q6, fun c hc => ⟨p2 c hc, ?_⟩⟩
  · obtain ⟨m0, m1, m2, m3, m4, m5, m6⟩ := hO.mi hj
    exact ⟨(hR.mi hj).1, (q5 j hj 0 (by decide)).trans m1, (q5 j hj 1 (by decide)).trans m2, (q5 j hj 2 (by decide)).trans m3, (q5 j hj 3 (by decide)).trans m4, (q5 j hj 4 (by decide)).trans m5, (q5 j hj 5 (by decide)).trans m6⟩
  · obtain ⟨-, g, ⟨c0, ca, c1, c2, c3, c4, c5, c6, c7⟩, hg⟩ := hO.2.2.2.2.2 c hc
    obtain ⟨-, -, ⟨d0, da, -⟩, -⟩ := hR.2.2.2.2.2 c hc
    obtain ⟨z1, z2⟩ := q7 c hc
    exact ⟨g, ⟨d0, da, (z1 0 (by decide)).trans c1, (z1 1 (by decide)).trans c2, (z1 2 (by decide)).trans c3, p3 c hc, c5, fun k hk => by
      obtain ⟨t, t1, t2⟩ := c6 k hk
      exact ⟨t, (z2 k (by omega)).trans t1, t2.keep hT⟩, fun k hk hk2 => (z2 k hk2).trans (c7 k hk hk2)⟩, hg⟩
theorem Cp.ov {V V' : Vl} {a y b c d : Nat} (h : Cp V r o V' a y b c d) (hd : r + 25 ≤ o ∨ o + 25 ≤ r) {x : Nat} (hx : x < 25) : V' (o + x) = V (o + x) := h.1 _ (by omega)
theorem c_Road_copyFrom (hR : RoadAt sh V r g0) (hO : RoadAt sh V o f) (hd : r + 25 ≤ o ∨ o + 25 ≤ r) (hP : ∀ V', Fr V V' r → RoadAt sh V' r f → P (.inl none) sh sz V') : MC E YX4_copyFrom [.ref r, .ref o] sh sz V P := by
  obtain ⟨⟨a0, a1, a2, a3, a4⟩, ⟨b0, b1, b2, b3, b4, b5, b6, b7, b8⟩, hC, hD, hE, hF⟩ := id hO
  have s0 := hR.1.1
  have s1 := hR.1.2.1
  have s2 := hR.1.2.2.1
  have s3 := hR.1.2.2.2.1
  have s4 := hR.1.2.2.2.2
  refine MC.of RX4 "copyFrom" rfl (by decide +kernel) rfl 1 [_, _, none] rfl (Nat.le_of_ble_eq_true rfl) ?_
  show G E MX4_copyFrom _ _ _ _ _ _ _ _ _
  refine g_iconst (v := nI 0) dX4_copyFrom_0 (by decide) ?_
  refine g_istore_n dX4_copyFrom_1 (by decide) rfl ?_
  show G _ _ _ _ _ _ _ _ _ [_, _, _] _
  have h0 : Cp V r o V 0 0 0 0 0 := ⟨Fr.rf, ⟨hR.2.1.1, hR.2.1.2.2.1, hR.2.1.2.2.2.1, hR.2.1.2.2.2.2.1⟩, ⟨fun j hj => (hR.2.2.2.1 j hj).1, fun j hj => (hR.2.2.2.2.2 j hj).1, fun j hj => by obtain ⟨-, g, hv, -⟩ := hR.2.2.2.2.2 j hj; exact hv.2.2.2.2.2.1⟩, fun k hk => absurd hk (Nat.not_lt_zero k), fun h => absurd h (Nat.lt_irrefl 0), fun k hk => absurd hk (Nat.not_lt_zero k), fun k hk => absurd hk (Nat.not_lt_zero k), fun k hk => absurd hk (Nat.not_lt_zero k)⟩
  have K4 : ∀ (d i : Nat), i + d = 4 → ∀ V', Cp V r o V' 3 1 12 10 i → G E MX4_copyFrom P sh sz V' 0 0 97 [some (.ref r), some (.ref o), some (.int (nI i))] [] := by
    intro d
    induction d with
    | zero =>
      intro i hi V' hc
      have e : i = 4 := by omega
      subst e
      have ho : ∀ x, x < 25 → V' (o + x) = V (o + x) := fun x hx => hc.ov hd hx
      have hor : V' o = V o := ho 0 (by decide)
      have hro : r ≠ o := by omega
      have hor2 : o ≠ r := by omega
      refine g_iload_n dX4_copyFrom_97 rfl ?_
      refine g_iconst (v := nI 4) dX4_copyFrom_98 (by decide) ?_
      refine g_icmp_ge (tgt := 123) dX4_copyFrom_99 (by decide) (fun _ => ?_) (fun hq => absurd (Int32.le_refl _) hq)
      refine g_aload_n dX4_copyFrom_123 rfl ?_
      refine g_aload_n dX4_copyFrom_124 rfl ?_
      refine g_get 6 rfl (by decide) inX4 5 (by decide) fl_X4_37 dX4_copyFrom_125 a0 ((congrFun hor 5).trans b5) ?_
      refine g_put 6 rfl (by decide) inX4 tyX4 tyX4_ok nmX4 5 (by decide) fl_X4_37 rfl dX4_copyFrom_128 s0 rfl rfl ?_
      refine g_aload_n dX4_copyFrom_131 rfl ?_
      refine g_aload_n dX4_copyFrom_132 rfl ?_
      refine g_get 6 rfl (by decide) inX4 6 (by decide) fl_X4_40 dX4_copyFrom_133 a0 ((congrFun ((hu_ne _ _ _ hor2).trans hor) 6).trans b6) ?_
      refine g_put 6 rfl (by decide) inX4 tyX4 tyX4_ok nmX4 6 (by decide) fl_X4_40 rfl dX4_copyFrom_136 s0 rfl rfl ?_
      refine g_aload_n dX4_copyFrom_139 rfl ?_
      refine g_aload_n dX4_copyFrom_140 rfl ?_
      refine g_get 6 rfl (by decide) inX4 7 (by decide) fl_X4_43 dX4_copyFrom_141 a0 ((congrFun ((hu_ne _ _ _ hor2).trans ((hu_ne _ _ _ hor2).trans hor)) 7).trans b7) ?_
      refine g_put 6 rfl (by decide) inX4 tyX4 tyX4_ok nmX4 7 (by decide) fl_X4_43 rfl dX4_copyFrom_144 s0 rfl rfl ?_
      refine g_aload_n dX4_copyFrom_147 rfl ?_
      refine g_aload_n dX4_copyFrom_148 rfl ?_
      refine g_get 6 rfl (by decide) inX4 8 (by decide) fl_X4_46 dX4_copyFrom_149 a0 ((congrFun ((hu_ne _ _ _ hor2).trans ((hu_ne _ _ _ hor2).trans ((hu_ne _ _ _ hor2).trans hor))) 8).trans b8) ?_
      refine g_put 6 rfl (by decide) inX4 tyX4 tyX4_ok nmX4 8 (by decide) fl_X4_46 rfl dX4_copyFrom_152 s0 rfl rfl ?_
      have hc2 : ∀ V2, (∀ x, x ≠ r → V2 x = V' x) → V2 r 0 = V' r 0 → V2 r 1 = V' r 1 → V2 r 2 = V' r 2 → V2 r 3 = V' r 3 → V2 r 4 = V' r 4 → Cp V r o V2 3 1 12 10 4 := by
        intro V2 e e0 e1 e2 e3 e4
        obtain ⟨h1, ⟨n0, n2, n3, n4⟩, ⟨p1, p2, p3⟩, h3, h4, h5, h6, h7⟩ := hc
        exact ⟨h1.trans (fun x hx => e x (by omega)), ⟨e0.trans n0, e2.trans n2, e3.trans n3, e4.trans n4⟩, ⟨fun j hj => by rw [e _ (by omega)]; exact p1 j hj, fun j hj => by rw [e _ (by omega)]; exact p2 j hj, fun j hj => by rw [e _ (by omega)]; exact p3 j hj⟩, fun k hk => by rw [e _ (by omega)]; exact h3 k hk, fun z => e1.trans (h4 z), fun j hj => by rw [e _ (by omega)]; exact h5 j hj, fun k hk => by rw [e _ (by omega)]; exact h6 k hk, fun j hj => by rw [e _ (by omega), e _ (by omega)]; exact h7 j hj⟩
      have hc3 := hc2 (hu (hu (hu (hu V' r 5 (.int (f 1))) r 6 (.int (f 2))) r 7 (.int (f 3))) r 8 (.int (f 4))) (fun x hx => by simp only [hu_ne _ _ _ hx]) (by simp [hu, updV]) (by simp [hu, updV]) (by simp [hu, updV]) (by simp [hu, updV]) (by simp [hu, updV])
      exact g_vret rfl dX4_copyFrom_155 (by decide) (hP _ hc3.1 (Cp.done hc3 (by decide) hR hO (by simp [hu, updV, b5]) (by simp [hu, updV, b6]) (by simp [hu, updV, b7]) (by simp [hu, updV, b8])))
    | succ d ih =>
      intro i hi V' hc
      obtain ⟨-, g, hv, -⟩ := hR.2.2.2.2.2 i (by omega)
      obtain ⟨-, g', hw, -⟩ := hF i (by omega)
      have hw2 : CvAt sh V' (o + 17 + 2 * i) g' (ldF f i) (nF f i) (tkF f i) := hw.keep (hR.tr hc.1) (hc.1 _ (by omega)) (hc.1 _ (by omega))
      refine g_iload_n dX4_copyFrom_97 rfl ?_
      refine g_iconst (v := nI 4) dX4_copyFrom_98 (by decide) ?_
      refine g_icmp_ge (tgt := 123) dX4_copyFrom_99 (by decide) (fun hq => absurd hq (nI_ge (by omega) (by decide))) (fun _ => ?_)
      refine g_aload_n dX4_copyFrom_102 rfl ?_
      refine g_get 6 rfl (by decide) inX4 4 (by decide) fl_X4_33 dX4_copyFrom_103 s0 hc.2.1.2.2.2 ?_
      refine g_iload_n dX4_copyFrom_106 rfl ?_
      refine g_aaload _ dX4_copyFrom_107 s4 (by decide) (by decide) (vp_in_nI (by omega) (by decide)) (at_nI (by omega) (hc.2.2.1.2.1 i (by omega))) ?_
      refine g_aload_n dX4_copyFrom_108 rfl ?_
      refine g_get 6 rfl (by decide) inX4 4 (by decide) fl_X4_33 dX4_copyFrom_109 a0 ((congrFun (hc.ov (x := 0) hd (by decide)) 4).trans b4) ?_
      refine g_iload_n dX4_copyFrom_112 rfl ?_
      refine g_aaload _ dX4_copyFrom_113 a4 (by decide) (by decide) (vp_in_nI (by omega) (by decide)) (at_nI (by omega) ((congrFun (hc.ov (x := 4) hd (by decide)) i).trans (hF i (by omega)).1)) ?_
      refine g_callVv (Y := YX0_copyFrom) (Q := (fun V2 => (∀ x, x ≠ r + 17 + 2 * i → x ≠ r + 17 + 2 * i + 1 → V2 x = V' x) ∧ (∀ k, k < 3 → V2 (r + 17 + 2 * i) k = V' (o + 17 + 2 * i) k) ∧ V2 (r + 17 + 2 * i) 3 = V' (r + 17 + 2 * i) 3 ∧ (∀ k, k < 4 → V2 (r + 17 + 2 * i + 1) k = V' (o + 17 + 2 * i + 1) k))) sv_X4_55 rfl yn_X0_copyFrom 2 (by decide) rfl rfl dX4_copyFrom_114 (c_Convoy_copyFrom hv.1 hv.2.1 (hc.2.2.1.2.2 i (by omega)) hw2 (by omega) (by omega) (by omega) (fun V2 q1 q2 q3 q4 => ⟨rfl, rfl, rfl, q1, q2, q3, q4⟩)) hv.1 rfl rfl rfl (Nat.le_of_ble_eq_true rfl) ⟨rfl, rfl⟩ (fun V2 q => ?_)
      refine g_iinc dX4_copyFrom_117 rfl (by first | exact nI_inc _ | rfl) (by decide) rfl ?_
      show G _ _ _ _ _ _ _ _ _ [_, _, _] _
      refine g_jump (tgt := 97) dX4_copyFrom_120 (by decide) ?_
      exact ih (i + 1) (by omega) V2 (hc.cv (by omega) (by omega) q.1 (fun k hk => (q.2.1 k hk).trans (congrFun (hc.1 _ (by omega)) k)) q.2.2.1 (fun k hk => (q.2.2.2 k hk).trans (congrFun (hc.1 _ (by omega)) k)))
  have K3 : ∀ (d i : Nat), i + d = 10 → ∀ V', Cp V r o V' 3 1 12 i 0 → G E MX4_copyFrom P sh sz V' 0 0 68 [some (.ref r), some (.ref o), some (.int (nI i))] [] := by
    intro d
    induction d with
    | zero =>
      intro i hi V' hc
      have e : i = 10 := by omega
      subst e
      refine g_iload_n dX4_copyFrom_68 rfl ?_
      refine g_aload_n dX4_copyFrom_69 rfl ?_
      refine g_get 6 rfl (by decide) inX4 3 (by decide) fl_X4_27 dX4_copyFrom_70 s0 hc.2.1.2.2.1 ?_
      refine g_alen (v := nI 10) dX4_copyFrom_73 s3 (by decide) (by decide) rfl ?_
      refine g_icmp_ge (tgt := 95) dX4_copyFrom_74 (by decide) (fun _ => ?_) (fun hq => absurd (Int32.le_refl _) hq)
      refine g_iconst (v := nI 0) dX4_copyFrom_95 (by decide) ?_
      refine g_istore_n dX4_copyFrom_96 (by decide) rfl ?_
      show G _ _ _ _ _ _ _ _ _ [_, _, _] _
      exact K4 4 0 rfl V' hc
    | succ d ih =>
      intro i hi V' hc
      have e3 := hc.ov (x := 3) hd (by decide)
      refine g_iload_n dX4_copyFrom_68 rfl ?_
      refine g_aload_n dX4_copyFrom_69 rfl ?_
      refine g_get 6 rfl (by decide) inX4 3 (by decide) fl_X4_27 dX4_copyFrom_70 s0 hc.2.1.2.2.1 ?_
      refine g_alen (v := nI 10) dX4_copyFrom_73 s3 (by decide) (by decide) rfl ?_
      refine g_icmp_ge (tgt := 95) dX4_copyFrom_74 (by decide) (fun hq => absurd hq (nI_ge (by omega) (by decide))) (fun _ => ?_)
      refine g_aload_n dX4_copyFrom_77 rfl ?_
      refine g_get 6 rfl (by decide) inX4 3 (by decide) fl_X4_27 dX4_copyFrom_78 s0 hc.2.1.2.2.1 ?_
      refine g_iload_n dX4_copyFrom_81 rfl ?_
      refine g_aload_n dX4_copyFrom_82 rfl ?_
      refine g_get 6 rfl (by decide) inX4 3 (by decide) fl_X4_27 dX4_copyFrom_83 a0 ((congrFun (hc.ov (x := 0) hd (by decide)) 3).trans b3) ?_
      refine g_iload_n dX4_copyFrom_86 rfl ?_
      by_cases q : f (oR i) = 0
      · have q1 := (hE i (by omega)).1 q
        refine g_aaload _ dX4_copyFrom_87 a3 (by decide) (by decide) (vp_in_nI (by omega) (by decide)) (at_nI (by omega) ((congrFun e3 i).trans q1)) ?_
        refine g_aastoreN 24 rfl (by decide) (by decide) dX4_copyFrom_88 s3 (vp_in_nI (by omega) (by decide)) ?_
        rw [nI_clamp (by omega)]
        refine g_iinc dX4_copyFrom_89 rfl (by first | exact nI_inc _ | rfl) (by decide) rfl ?_
        show G _ _ _ _ _ _ _ _ _ [_, _, _] _
        refine g_jump (tgt := 68) dX4_copyFrom_92 (by decide) ?_
        exact ih (i + 1) (by omega) _ (hc.rw (by omega) q1)
      · obtain ⟨t, q1, q2⟩ := (hE i (by omega)).2 q
        refine g_aaload _ dX4_copyFrom_87 a3 (by decide) (by decide) (vp_in_nI (by omega) (by decide)) (at_nI (by omega) ((congrFun e3 i).trans q1)) ?_
        refine g_aastore 24 7 rfl (by decide) rfl (by decide) (by decide) dX4_copyFrom_88 s3 q2.1 (vp_in_nI (by omega) (by decide)) ?_
        rw [nI_clamp (by omega)]
        refine g_iinc dX4_copyFrom_89 rfl (by first | exact nI_inc _ | rfl) (by decide) rfl ?_
        show G _ _ _ _ _ _ _ _ _ [_, _, _] _
        refine g_jump (tgt := 68) dX4_copyFrom_92 (by decide) ?_
        exact ih (i + 1) (by omega) _ (hc.rw (by omega) q1)
  have K2 : ∀ (d i : Nat), i + d = 12 → ∀ V', Cp V r o V' 3 1 i 0 0 → G E MX4_copyFrom P sh sz V' 0 0 39 [some (.ref r), some (.ref o), some (.int (nI i))] [] := by
    intro d
    induction d with
    | zero =>
      intro i hi V' hc
      have e : i = 12 := by omega
      subst e
      refine g_iload_n dX4_copyFrom_39 rfl ?_
      refine g_bipush (v := nI 12) dX4_copyFrom_40 (by decide) ?_
      refine g_icmp_ge (tgt := 66) dX4_copyFrom_42 (by decide) (fun _ => ?_) (fun hq => absurd (Int32.le_refl _) hq)
      refine g_iconst (v := nI 0) dX4_copyFrom_66 (by decide) ?_
      refine g_istore_n dX4_copyFrom_67 (by decide) rfl ?_
      show G _ _ _ _ _ _ _ _ _ [_, _, _] _
      exact K3 10 0 rfl V' hc
    | succ d ih =>
      intro i hi V' hc
      have hw := hO.mi (j := i) (by omega)
      have hw2 : MiAt sh V' (o + 5 + i) (f (oM i 0)) (f (oM i 3)) (f (oM i 4)) (f (oM i 1)) (f (oM i 2)) (f (oM i 5)) := by
        unfold MiAt at hw ⊢
        rw [hc.1 (o + 5 + i) (by omega)]
        exact hw
      refine g_iload_n dX4_copyFrom_39 rfl ?_
      refine g_bipush (v := nI 12) dX4_copyFrom_40 (by decide) ?_
      refine g_icmp_ge (tgt := 66) dX4_copyFrom_42 (by decide) (fun hq => absurd hq (nI_ge (by omega) (by decide))) (fun _ => ?_)
      refine g_aload_n dX4_copyFrom_45 rfl ?_
      refine g_get 6 rfl (by decide) inX4 2 (by decide) fl_X4_21 dX4_copyFrom_46 s0 hc.2.1.2.1 ?_
      refine g_iload_n dX4_copyFrom_49 rfl ?_
      refine g_aaload _ dX4_copyFrom_50 s2 (by decide) (by decide) (vp_in_nI (by omega) (by decide)) (at_nI (by omega) (hc.2.2.1.1 i (by omega))) ?_
      refine g_aload_n dX4_copyFrom_51 rfl ?_
      refine g_get 6 rfl (by decide) inX4 2 (by decide) fl_X4_21 dX4_copyFrom_52 a0 ((congrFun (hc.ov (x := 0) hd (by decide)) 2).trans b2) ?_
      refine g_iload_n dX4_copyFrom_55 rfl ?_
      refine g_aaload _ dX4_copyFrom_56 a2 (by decide) (by decide) (vp_in_nI (by omega) (by decide)) (at_nI (by omega) ((congrFun (hc.ov (x := 2) hd (by decide)) i).trans (hD i (by omega)).1)) ?_
      refine g_callVv (Y := YX2_copyFrom) (Q := (fun V2 => (∀ x, x ≠ r + 5 + i → V2 x = V' x) ∧ (∀ k, k < 6 → V2 (r + 5 + i) k = V' (o + 5 + i) k))) sv_X4_51 rfl yn_X2_copyFrom 4 (by decide) rfl rfl dX4_copyFrom_57 (c_Mile_copyFrom (hR.mi (j := i) (by omega)).1 hw2 (by omega) (fun V2 q1 q2 => ⟨rfl, rfl, rfl, q1, q2⟩)) (hR.mi (j := i) (by omega)).1 rfl rfl rfl (Nat.le_of_ble_eq_true rfl) ⟨rfl, rfl⟩ (fun V2 q => ?_)
      refine g_iinc dX4_copyFrom_60 rfl (by first | exact nI_inc _ | rfl) (by decide) rfl ?_
      show G _ _ _ _ _ _ _ _ _ [_, _, _] _
      refine g_jump (tgt := 39) dX4_copyFrom_63 (by decide) ?_
      exact ih (i + 1) (by omega) V2 (hc.mi (by omega) q.1 (fun k hk => (q.2 k hk).trans (congrFun (hc.1 _ (by omega)) k)))
  suffices K1 : ∀ (d i : Nat), i + d = 3 → ∀ V', Cp V r o V' i 0 0 0 0 → G E MX4_copyFrom P sh sz V' 0 0 2 [some (.ref r), some (.ref o), some (.int (nI i))] [] from K1 3 0 rfl V h0
  intro d
  induction d with
  | zero =>
    intro i hi V' hc
    have e : i = 3 := by omega
    subst e
    refine g_iload_n dX4_copyFrom_2 rfl ?_
    refine g_aload_n dX4_copyFrom_3 rfl ?_
    refine g_get 6 rfl (by decide) inX4 0 (by decide) fl_X4_9 dX4_copyFrom_4 s0 hc.2.1.1 ?_
    refine g_alen (v := nI 3) dX4_copyFrom_7 s1 (by decide) (by decide) rfl ?_
    refine g_icmp_ge (tgt := 29) dX4_copyFrom_8 (by decide) (fun _ => ?_) (fun hq => absurd (Int32.le_refl _) hq)
    refine g_aload_n dX4_copyFrom_29 rfl ?_
    refine g_aload_n dX4_copyFrom_30 rfl ?_
    refine g_get 6 rfl (by decide) inX4 1 (by decide) fl_X4_15 dX4_copyFrom_31 a0 ((congrFun (hc.ov (x := 0) hd (by decide)) 1).trans b1) ?_
    refine g_put 6 rfl (by decide) inX4 tyX4 tyX4_ok nmX4 1 (by decide) fl_X4_15 rfl dX4_copyFrom_34 s0 rfl rfl ?_
    refine g_iconst (v := nI 0) dX4_copyFrom_37 (by decide) ?_
    refine g_istore_n dX4_copyFrom_38 (by decide) rfl ?_
    show G _ _ _ _ _ _ _ _ _ [_, _, _] _
    exact K2 12 0 rfl _ (hc.day b1)
  | succ d ih =>
    intro i hi V' hc
    have q1 := hC i (by omega)
    refine g_iload_n dX4_copyFrom_2 rfl ?_
    refine g_aload_n dX4_copyFrom_3 rfl ?_
    refine g_get 6 rfl (by decide) inX4 0 (by decide) fl_X4_9 dX4_copyFrom_4 s0 hc.2.1.1 ?_
    refine g_alen (v := nI 3) dX4_copyFrom_7 s1 (by decide) (by decide) rfl ?_
    refine g_icmp_ge (tgt := 29) dX4_copyFrom_8 (by decide) (fun hq => absurd hq (nI_ge (by omega) (by decide))) (fun _ => ?_)
    refine g_aload_n dX4_copyFrom_11 rfl ?_
    refine g_get 6 rfl (by decide) inX4 0 (by decide) fl_X4_9 dX4_copyFrom_12 s0 hc.2.1.1 ?_
    refine g_iload_n dX4_copyFrom_15 rfl ?_
    refine g_aload_n dX4_copyFrom_16 rfl ?_
    refine g_get 6 rfl (by decide) inX4 0 (by decide) fl_X4_9 dX4_copyFrom_17 a0 ((congrFun (hc.ov (x := 0) hd (by decide)) 0).trans b0) ?_
    refine g_iload_n dX4_copyFrom_20 rfl ?_
    refine g_iaload dX4_copyFrom_21 a1 (vp_in_nI (by omega) (by decide)) (at_nI (by omega) ((congrFun (hc.ov (x := 1) hd (by decide)) i).trans q1)) ?_
    refine g_iastore dX4_copyFrom_22 s1 (vp_in_nI (by omega) (by decide)) ?_
    rw [nI_clamp (by omega)]
    refine g_iinc dX4_copyFrom_23 rfl (by first | exact nI_inc _ | rfl) (by decide) rfl ?_
    show G _ _ _ _ _ _ _ _ _ [_, _, _] _
    refine g_jump (tgt := 2) dX4_copyFrom_26 (by decide) ?_
    exact ih (i + 1) (by omega) _ (hc.st (by omega) q1)
end COPY

