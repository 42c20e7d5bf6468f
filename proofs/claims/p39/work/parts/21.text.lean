/-! texts of orders -/
section TEXT
/-- a digit at i -/
abbrev dg (tx : Nat → Int32) (n i : Nat) : Prop := i < n ∧ nI 48 ≤ tx i ∧ tx i ≤ nI 57
def dV (tx : Nat → Int32) (n i : Nat) : Int32 := if dg tx n i then tx i - nI 48 else -1
def dE (tx : Nat → Int32) (n i : Nat) : Nat := if dg tx n i then i + 1 else i
/-- one or two digits at i -/
def nV (tx : Nat → Int32) (n i : Nat) : Int32 := if dg tx n i then (if dg tx n (i + 1) then nI 10 * (tx i - nI 48) + (tx (i + 1) - nI 48) else tx i - nI 48) else -1
def nE (tx : Nat → Int32) (n i : Nat) : Nat := if dg tx n i then (if dg tx n (i + 1) then i + 2 else i + 1) else i
abbrev ch (tx : Nat → Int32) (n i : Nat) (c : Int32) : Prop := i < n ∧ tx i = c
/-- the order that begins at i: whether it is one, where it ends (or cannot go on), letter and numbers -/
def oK (tx : Nat → Int32) (n i : Nat) : Bool × Nat × (Int32 × Int32 × Int32 × Int32) :=
  if ch tx n i (nI 100) ∨ ch tx n i (nI 112) then (decide (dg tx n (i + 1)), nE tx n (i + 1), (tx i, nV tx n (i + 1), 0, 0))
  else if ch tx n i (nI 115) ∨ ch tx n i (nI 114) then (decide (dg tx n (i + 1)), dE tx n (i + 1), (tx i, dV tx n (i + 1), 0, 0))
  else if ch tx n i (nI 116) then
    (if ch tx n (i + 1) (nI 45) then (decide (dg tx n (i + 2)), nE tx n (i + 2), (tx i, -nV tx n (i + 2), 0, 0))
     else (decide (dg tx n (i + 1)), nE tx n (i + 1), (tx i, nV tx n (i + 1), 0, 0)))
  else if ch tx n i (nI 106) then
    (if ¬ dg tx n (i + 1) then (false, i + 1, (0, 0, 0, 0)) else if ¬ ch tx n (i + 2) (nI 58) then (false, i + 2, (0, 0, 0, 0))
     else if ¬ dg tx n (i + 3) then (false, i + 3, (0, 0, 0, 0)) else if ¬ ch tx n (i + 4) (nI 46) then (false, i + 4, (0, 0, 0, 0))
     else if ¬ dg tx n (i + 5) then (false, i + 5, (0, 0, 0, 0)) else (true, i + 6, (tx i, tx (i + 1) - nI 48, tx (i + 3) - nI 48, tx (i + 5) - nI 48)))
  else (false, i, (0, 0, 0, 0))
theorem dg_num {tx : Nat → Int32} {n i : Nat} (h : dg tx n i) : ∃ d, d < 10 ∧ tx i - nI 48 = nI d := by
  obtain ⟨-, h1, h2⟩ := h
  have h0 : ¬ tx i < 0 := by
    rw [fa_lt]; rw [fa_le] at h1
    have e : (nI 48).toInt = 48 := by decide
    have e0 : (0 : Int32).toInt = 0 := by decide
    omega
  obtain ⟨j, hj, e⟩ := nI_of h0
  rw [e] at h1 h2 ⊢
  rw [nI_leI (by decide) hj] at h1
  rw [nI_leI hj (by decide)] at h2
  exact ⟨j - 48, by omega, pk_sub h1⟩
theorem dV_neg {tx : Nat → Int32} {n i : Nat} : dV tx n i < 0 ↔ ¬ dg tx n i := by
  unfold dV
  by_cases h : dg tx n i
  · obtain ⟨d, h1, h2⟩ := dg_num h
    rw [if_pos h, h2]
    exact ⟨fun q => absurd q (nI_pos (by omega)), fun q => absurd h q⟩
  · rw [if_neg h]
    exact ⟨fun _ => h, fun _ => by decide⟩
theorem nV_num {tx : Nat → Int32} {n i : Nat} (h : dg tx n i) : ∃ d, d < 100 ∧ nV tx n i = nI d := by
  obtain ⟨d, h1, h2⟩ := dg_num h
  unfold nV
  rw [if_pos h]
  by_cases q : dg tx n (i + 1)
  · obtain ⟨e, h3, h4⟩ := dg_num q
    rw [if_pos q, h2, h4, pk_mul, nI_add]
    exact ⟨10 * d + e, by omega, rfl⟩
  · rw [if_neg q, h2]
    exact ⟨d, by omega, rfl⟩
theorem nV_neg {tx : Nat → Int32} {n i : Nat} : nV tx n i < 0 ↔ ¬ dg tx n i := by
  by_cases h : dg tx n i
  · obtain ⟨d, h1, h2⟩ := nV_num h
    rw [h2]
    exact ⟨fun q => absurd q (nI_pos (by omega)), fun q => absurd h q⟩
  · unfold nV
    rw [if_neg h]
    exact ⟨fun _ => h, fun _ => by decide⟩
theorem dE_le {tx : Nat → Int32} {n i : Nat} (h : i ≤ n) : dE tx n i ≤ n := by
  unfold dE
  split
  · rename_i q; exact q.1
  · exact h
theorem nE_le {tx : Nat → Int32} {n i : Nat} (h : i ≤ n) : nE tx n i ≤ n := by
  unfold nE
  split
  · rename_i q
    split
    · rename_i q2; exact q2.1
    · exact q.1
  · exact h
theorem hu_hu (V : Vl) (a k : Nat) (x y : Value) : hu (hu V a k x) a k y = hu V a k y := by
  funext b j
  by_cases h : b = a
  · subst h
    by_cases z : j = k
    · subst z; rw [hu_at, hu_at]
    · rw [hu_at_ne _ _ _ z, hu_at_ne _ _ _ z, hu_at_ne _ _ _ z]
  · rw [hu_ne _ _ _ h, hu_ne _ _ _ h, hu_ne _ _ _ h]
theorem hu_same {V : Vl} {a k : Nat} {x : Value} (h : V a k = x) : hu V a k x = V := by
  funext b j
  by_cases q : b = a
  · subst q
    by_cases z : j = k
    · subst z; rw [hu_at, h]
    · rw [hu_at_ne _ _ _ z]
  · rw [hu_ne _ _ _ q]
/-- the input being read, at the offset i, behind k orders -/
def Pz (sh : Sh) (V : Vl) (o : Nat) (tx : Nat → Int32) (n i k : Nat) : Prop := OrAt sh V o tx n ∧ V o 2 = .int (nI i) ∧ V o 3 = .int (nI k) ∧ i ≤ n
/-- what reading an order may have changed: the offset, and the row k of the orders -/
def Ar (V V' : Vl) (o k : Nat) : Prop := (∀ a, (a < o ∨ o + 6 ≤ a) → V' a = V a) ∧ (∀ j, j ≠ k → V' (o + 2) j = V (o + 2) j ∧ V' (o + 3) j = V (o + 3) j ∧ V' (o + 4) j = V (o + 4) j ∧ V' (o + 5) j = V (o + 5) j) ∧ (∀ s, s ≠ 2 → V' o s = V o s) ∧ V' (o + 1) = V (o + 1)
theorem Ar.rf {V : Vl} {o k : Nat} : Ar V V o k := ⟨fun _ _ => rfl, fun _ _ => ⟨rfl, rfl, rfl, rfl⟩, fun _ _ => rfl, rfl⟩
theorem Ar.off {V V' : Vl} {o k : Nat} {x : Value} (h : Ar V V' o k) : Ar V (hu V' o 2 x) o k :=
  ⟨fun a ha => (hu_ne _ _ _ (by omega)).trans (h.1 a ha), fun j hj => by
    rw [hu_ne _ _ _ (show o + 2 ≠ o by omega), hu_ne _ _ _ (show o + 3 ≠ o by omega), hu_ne _ _ _ (show o + 4 ≠ o by omega), hu_ne _ _ _ (show o + 5 ≠ o by omega)]
    exact h.2.1 j hj, fun s hs => (hu_at_ne _ _ _ hs).trans (h.2.2.1 s hs), (hu_ne _ _ _ (by omega)).trans h.2.2.2⟩
theorem Ar.arr {V V' : Vl} {o k b : Nat} {x : Value} (h : Ar V V' o k) (h1 : 2 ≤ b) (h2 : b ≤ 5) : Ar V (hu V' (o + b) k x) o k := by
  have e : ∀ c, ∀ j, j ≠ k → hu V' (o + b) k x (o + c) j = V' (o + c) j := fun c j hj => by
    by_cases z : o + c = o + b
    · rw [z, hu_at_ne _ _ _ hj]
    · rw [hu_ne _ _ _ z]
  exact ⟨fun a ha => (hu_ne _ _ _ (by omega)).trans (h.1 a ha), fun j hj => by
    rw [e 2 j hj, e 3 j hj, e 4 j hj, e 5 j hj]
    exact h.2.1 j hj, fun s hs => (congrFun (hu_ne _ _ _ (by omega)) s).trans (h.2.2.1 s hs), (hu_ne _ _ _ (by omega)).trans h.2.2.2⟩
theorem Pz.ar {sh : Sh} {V V' : Vl} {o n i j k : Nat} {tx : Nat → Int32} (h : Pz sh V o tx n i k) (ha : Ar V V' o k) (h2 : V' o 2 = .int (nI j)) (hj : j ≤ n) : Pz sh V' o tx n j k := by
  obtain ⟨⟨s, ⟨v0, v1, v4, v5, v6, v7⟩, hn, ht⟩, q2, q3, q4⟩ := h
  have e := ha.2.2.1
  exact ⟨⟨s, ⟨(e 0 (by decide)).trans v0, (e 1 (by decide)).trans v1, (e 4 (by decide)).trans v4, (e 5 (by decide)).trans v5, (e 6 (by decide)).trans v6, (e 7 (by decide)).trans v7⟩, hn, fun m hm => by rw [ha.2.2.2]; exact ht m hm⟩, h2, (e 3 (by decide)).trans q3, hj⟩
theorem Pz.off {sh : Sh} {V : Vl} {o n i j k : Nat} {tx : Nat → Int32} (h : Pz sh V o tx n i k) (hj : j ≤ n) : Pz sh (hu V o 2 (.int (nI j))) o tx n j k := h.ar (Ar.rf.off) (hu_at _ _ _ _) hj
variable {E : gE} {M : gM} {P : gP} {sh : Sh} {sz : Nat} {V : Vl} {cu su pc : Nat} {L : List (Option Value)} {rest : List Value} {o n i k : Nat} {tx : Nat → Int32}
theorem Pz.chr (h : Pz sh V o tx n i k) (hi : i < n) : V (o + 1) (nI i).toNatClampNeg = .int (tx i) := at_nI (by have := h.1.2.2.1; omega) (h.1.2.2.2 i hi)
theorem c_parseDigit (h : Pz sh V o tx n i k) (hP : P (.inl (some (.int (dV tx n i)))) sh sz (hu V o 2 (.int (nI (dE tx n i))))) : MC E YX3_parseDigit [.ref o] sh sz V P := by
  have hn := h.1.2.2.1
  have hi := h.2.2.2
  have s0 := h.1.1.1
  have s1 := h.1.1.2.1
  have v0 := h.1.2.1.1
  have v1 := h.1.2.1.2.1
  have v2 := h.2.1
  refine MC.of RX3 "parseDigit" rfl (by decide +kernel) rfl 1 [_, none] rfl (Nat.le_of_ble_eq_true rfl) ?_
  show G E MX3_parseDigit _ _ _ _ _ _ _ _ _
  have K : ¬ dg tx n i → G E MX3_parseDigit P sh sz V 0 0 39 [some (.ref o), none] [] := by
    intro q
    unfold dV dE at hP
    rw [if_neg q, if_neg q, hu_same v2] at hP
    refine g_iconst (v := (-1)) dX3_parseDigit_39 (by decide) ?_
    exact g_iret rfl (nr_int _) dX3_parseDigit_40 (by decide) hP
  refine g_aload_n dX3_parseDigit_0 rfl ?_
  refine g_get 5 rfl (by decide) inX3 2 (by decide) fl_X3_19 dX3_parseDigit_1 s0 v2 ?_
  refine g_aload_n dX3_parseDigit_4 rfl ?_
  refine g_get 5 rfl (by decide) inX3 1 (by decide) fl_X3_15 dX3_parseDigit_5 s0 v1 ?_
  refine g_icmp_ge (tgt := 39) dX3_parseDigit_8 (by decide) (fun b1 => ?_) (fun b1 => ?_)
  · exact K (fun q => by
      rw [nI_leI (by omega) (by omega)] at b1
      omega)
  rw [nI_leI (by omega) (by omega)] at b1
  refine g_aload_n dX3_parseDigit_11 rfl ?_
  refine g_get 5 rfl (by decide) inX3 0 (by decide) fl_X3_9 dX3_parseDigit_12 s0 v0 ?_
  refine g_aload_n dX3_parseDigit_15 rfl ?_
  refine g_get 5 rfl (by decide) inX3 2 (by decide) fl_X3_19 dX3_parseDigit_16 s0 v2 ?_
  refine g_caload dX3_parseDigit_19 s1 (vp_in_nI (by omega) (by decide)) (h.chr (by omega)) ?_
  refine g_bipush (v := nI 48) dX3_parseDigit_20 (by decide) ?_
  refine g_icmp_lt (tgt := 39) dX3_parseDigit_22 (by decide) (fun b2 => ?_) (fun b2 => ?_)
  · exact K (fun q => absurd q.2.1 (Int32.not_le.mpr b2))
  refine g_aload_n dX3_parseDigit_25 rfl ?_
  refine g_get 5 rfl (by decide) inX3 0 (by decide) fl_X3_9 dX3_parseDigit_26 s0 v0 ?_
  refine g_aload_n dX3_parseDigit_29 rfl ?_
  refine g_get 5 rfl (by decide) inX3 2 (by decide) fl_X3_19 dX3_parseDigit_30 s0 v2 ?_
  refine g_caload dX3_parseDigit_33 s1 (vp_in_nI (by omega) (by decide)) (h.chr (by omega)) ?_
  refine g_bipush (v := nI 57) dX3_parseDigit_34 (by decide) ?_
  refine g_icmp_le (tgt := 41) dX3_parseDigit_36 (by decide) (fun b3 => ?_) (fun b3 => ?_)
  · have q : dg tx n i := ⟨by omega, Int32.not_lt.mp b2, b3⟩
    unfold dV dE at hP
    rw [if_pos q, if_pos q] at hP
    refine g_aload_n dX3_parseDigit_41 rfl ?_
    refine g_get 5 rfl (by decide) inX3 0 (by decide) fl_X3_9 dX3_parseDigit_42 s0 v0 ?_
    refine g_aload_n dX3_parseDigit_45 rfl ?_
    refine g_get 5 rfl (by decide) inX3 2 (by decide) fl_X3_19 dX3_parseDigit_46 s0 v2 ?_
    refine g_caload dX3_parseDigit_49 s1 (vp_in_nI (by omega) (by decide)) (h.chr (by omega)) ?_
    refine g_bipush (v := nI 48) dX3_parseDigit_50 (by decide) ?_
    refine g_isub dX3_parseDigit_52 ?_
    refine g_istore_n dX3_parseDigit_53 (by decide) rfl ?_
    show G _ _ _ _ _ _ _ _ _ [_, _] _
    refine g_aload_n dX3_parseDigit_54 rfl ?_
    refine g_dup dX3_parseDigit_55 rfl ?_
    refine g_get 5 rfl (by decide) inX3 2 (by decide) fl_X3_19 dX3_parseDigit_56 s0 v2 ?_
    refine g_iconst (v := nI 1) dX3_parseDigit_59 (by decide) ?_
    refine g_iadd dX3_parseDigit_60 ?_
    rw [nI_add]
    refine g_put 5 rfl (by decide) inX3 tyX3 tyX3_ok nmX3 2 (by decide) fl_X3_19 rfl dX3_parseDigit_61 s0 rfl rfl ?_
    refine g_iload_n dX3_parseDigit_64 rfl ?_
    exact g_iret rfl (nr_int _) dX3_parseDigit_65 (by decide) hP
  · exact K (fun q => b3 q.2.2)
theorem c_skip {c : Int32} (h : Pz sh V o tx n i k) (hP : P (.inl (some (.int (bi (ch tx n i c))))) sh sz (hu V o 2 (.int (nI (if ch tx n i c then i + 1 else i))))) : MC E YX3_skip [.ref o, .int c] sh sz V P := by
  have hn := h.1.2.2.1
  have hi := h.2.2.2
  have s0 := h.1.1.1
  have s1 := h.1.1.2.1
  have v0 := h.1.2.1.1
  have v1 := h.1.2.1.2.1
  have v2 := h.2.1
  refine MC.of RX3 "skip" rfl (by decide +kernel) rfl 0 [_, _] rfl (Nat.le_of_ble_eq_true rfl) ?_
  show G E MX3_skip _ _ _ _ _ _ _ _ _
  have K : ¬ ch tx n i c → G E MX3_skip P sh sz V 0 0 24 [some (.ref o), some (.int c)] [] := by
    intro q
    rw [if_neg q, hu_same v2, bi_f q] at hP
    refine g_iconst (v := nI 0) dX3_skip_24 (by decide) ?_
    exact g_iret rfl nz0 dX3_skip_25 (by decide) hP
  refine g_aload_n dX3_skip_0 rfl ?_
  refine g_get 5 rfl (by decide) inX3 2 (by decide) fl_X3_19 dX3_skip_1 s0 v2 ?_
  refine g_aload_n dX3_skip_4 rfl ?_
  refine g_get 5 rfl (by decide) inX3 1 (by decide) fl_X3_15 dX3_skip_5 s0 v1 ?_
  refine g_icmp_ge (tgt := 24) dX3_skip_8 (by decide) (fun b1 => ?_) (fun b1 => ?_)
  · exact K (fun q => by
      rw [nI_leI (by omega) (by omega)] at b1
      omega)
  rw [nI_leI (by omega) (by omega)] at b1
  refine g_aload_n dX3_skip_11 rfl ?_
  refine g_get 5 rfl (by decide) inX3 0 (by decide) fl_X3_9 dX3_skip_12 s0 v0 ?_
  refine g_aload_n dX3_skip_15 rfl ?_
  refine g_get 5 rfl (by decide) inX3 2 (by decide) fl_X3_19 dX3_skip_16 s0 v2 ?_
  refine g_caload dX3_skip_19 s1 (vp_in_nI (by omega) (by decide)) (h.chr (by omega)) ?_
  refine g_iload_n dX3_skip_20 rfl ?_
  refine g_icmp_eq (tgt := 26) dX3_skip_21 (by decide) (fun b2 => ?_) (fun b2 => ?_)
  · have q : ch tx n i c := ⟨by omega, b2⟩
    rw [if_pos q, bi_t q] at hP
    refine g_aload_n dX3_skip_26 rfl ?_
    refine g_dup dX3_skip_27 rfl ?_
    refine g_get 5 rfl (by decide) inX3 2 (by decide) fl_X3_19 dX3_skip_28 s0 v2 ?_
    refine g_iconst (v := nI 1) dX3_skip_31 (by decide) ?_
    refine g_iadd dX3_skip_32 ?_
    rw [nI_add]
    refine g_put 5 rfl (by decide) inX3 tyX3 tyX3_ok nmX3 2 (by decide) fl_X3_19 rfl dX3_skip_33 s0 rfl rfl ?_
    refine g_iconst (v := nI 1) dX3_skip_36 (by decide) ?_
    exact g_iret rfl nz1 dX3_skip_37 (by decide) hP
  · exact K (fun q => b2 q.2)
theorem c_parseNumber (h : Pz sh V o tx n i k) (hP : P (.inl (some (.int (nV tx n i)))) sh sz (hu V o 2 (.int (nI (nE tx n i))))) : MC E YX3_parseNumber [.ref o] sh sz V P := by
  have s0 := h.1.1.1
  have v2 := h.2.1
  unfold nV nE at hP
  refine MC.of RX3 "parseNumber" rfl (by decide +kernel) rfl 2 [_, none, none] rfl (Nat.le_of_ble_eq_true rfl) ?_
  show G E MX3_parseNumber _ _ _ _ _ _ _ _ _
  refine g_aload_n dX3_parseNumber_0 rfl ?_
  refine g_callVw (Y := YX3_parseDigit) (Q := (fun v V1 => v = .int (dV tx n i) ∧ V1 = hu V o 2 (.int (nI (dE tx n i))))) sv_X3_50 rfl yn_X3_parseDigit 5 (by decide) rfl rfl dX3_parseNumber_1 (c_parseDigit h ⟨_, rfl, rfl, rfl, rfl, rfl⟩) s0 rfl rfl rfl (Nat.le_of_ble_eq_true rfl) ⟨rfl, rfl⟩ (fun v V1 q => ?_)
  obtain ⟨rfl, rfl⟩ := q
  refine g_istore_n dX3_parseNumber_4 (by decide) rfl ?_
  show G _ _ _ _ _ _ _ _ _ [_, _, _] _
  refine g_iload_n dX3_parseNumber_5 rfl ?_
  refine g_if_ge (tgt := 11) dX3_parseNumber_6 (by decide) (fun b1 => ?_) (fun b1 => ?_)
  · have q : dg tx n i := Classical.byContradiction fun q => absurd (dV_neg.mpr q) (Int32.not_lt.mpr b1)
    rw [if_pos q, if_pos q] at hP
    have e1 : dE tx n i = i + 1 := if_pos q
    have e2 : dV tx n i = tx i - nI 48 := if_pos q
    rw [e1, e2]
    refine g_aload_n dX3_parseNumber_11 rfl ?_
    refine g_callVw (Y := YX3_parseDigit) (Q := (fun v V1 => v = .int (dV tx n (i + 1)) ∧ V1 = hu (hu V o 2 (.int (nI (i + 1)))) o 2 (.int (nI (dE tx n (i + 1)))))) sv_X3_50 rfl yn_X3_parseDigit 5 (by decide) rfl rfl dX3_parseNumber_12 (c_parseDigit (h.off (j := i + 1) q.1) ⟨_, rfl, rfl, rfl, rfl, rfl⟩) s0 rfl rfl rfl (Nat.le_of_ble_eq_true rfl) ⟨rfl, rfl⟩ (fun v V1 q => ?_)
    obtain ⟨rfl, rfl⟩ := q
    rw [hu_hu]
    refine g_istore_n dX3_parseNumber_15 (by decide) rfl ?_
    show G _ _ _ _ _ _ _ _ _ [_, _, _] _
    refine g_iload_n dX3_parseNumber_16 rfl ?_
    refine g_if_ge (tgt := 24) dX3_parseNumber_17 (by decide) (fun b2 => ?_) (fun b2 => ?_)
    · have q2 : dg tx n (i + 1) := Classical.byContradiction fun q => absurd (dV_neg.mpr q) (Int32.not_lt.mpr b2)
      rw [if_pos q2, if_pos q2] at hP
      have e3 : dE tx n (i + 1) = i + 2 := if_pos q2
      have e4 : dV tx n (i + 1) = tx (i + 1) - nI 48 := if_pos q2
      rw [e3, e4]
      refine g_bipush (v := nI 10) dX3_parseNumber_24 (by decide) ?_
      refine g_iload_n dX3_parseNumber_26 rfl ?_
      refine g_imul dX3_parseNumber_27 ?_
      refine g_iload_n dX3_parseNumber_28 rfl ?_
      refine g_iadd dX3_parseNumber_29 ?_
      exact g_iret rfl (nr_int _) dX3_parseNumber_30 (by decide) hP
    · have q2 : ¬ dg tx n (i + 1) := dV_neg.mp (Int32.not_le.mp b2)
      rw [if_neg q2, if_neg q2] at hP
      have e3 : dE tx n (i + 1) = i + 1 := if_neg q2
      rw [e3]
      refine g_iload_n dX3_parseNumber_20 rfl ?_
      refine g_jump (tgt := 30) dX3_parseNumber_21 (by decide) ?_
      exact g_iret rfl (nr_int _) dX3_parseNumber_30 (by decide) hP
  · have q : ¬ dg tx n i := dV_neg.mp (Int32.not_le.mp b1)
    rw [if_neg q, if_neg q] at hP
    have e1 : dE tx n i = i := if_neg q
    rw [e1]
    refine g_iconst (v := (-1)) dX3_parseNumber_9 (by decide) ?_
    exact g_iret rfl (nr_int _) dX3_parseNumber_10 (by decide) hP
end TEXT

