/-! orders carried out on a road; a text read -/
section CARRY
abbrev isDay (x : Int32) : Prop := nI 1 ≤ x ∧ x ≤ nI 30
/-- what stands in the way of an order, in one number -/
noncomputable def exO (f : Fl) (q : Int32 × Int32 × Int32 × Int32) : Int32 :=
  if q.1 = nI 100 then (if isM q.2.1 then nI 0 else -1) else if q.1 = nI 115 then obs f q.2.1 (startO f) else if q.1 = nI 114 then obs f q.2.1 (rollO f)
  else if q.1 = nI 116 then (if isSV 0 q.2.1 then nI 0 else -3) else if q.1 = nI 106 then joinA f q.2.1 q.2.2.1 q.2.2.2 else if isDay q.2.1 then nI 0 else -3
/-- the road behind an order -/
def exF (f : Fl) (q : Int32 × Int32 × Int32 × Int32) : Fl :=
  if q.1 = nI 100 then drF f q.2.1.toNatClampNeg else if q.1 = nI 115 then startF f q.2.1.toNatClampNeg else if q.1 = nI 114 then advF f q.2.1.toNatClampNeg
  else if q.1 = nI 116 then upd f 5 q.2.1 else if q.1 = nI 106 then jnF f q.2.1.toNatClampNeg (q.2.2.1.toNatClampNeg * 5 + q.2.2.2.toNatClampNeg) else passF f q.2.1.toNatClampNeg
def isL (c : Int32) : Prop := c = nI 100 ∨ c = nI 115 ∨ c = nI 114 ∨ c = nI 116 ∨ c = nI 106 ∨ c = nI 112
theorem oK_let {tx : Nat → Int32} {n i : Nat} (h : (oK tx n i).1 = true) : isL (oK tx n i).2.2.1 := by
  by_cases l1 : ch tx n i (nI 100) ∨ ch tx n i (nI 112)
  · rw [oK_d l1]
    rcases l1 with q | q
    · exact Or.inl q.2
    · exact Or.inr (Or.inr (Or.inr (Or.inr (Or.inr q.2))))
  by_cases l2 : ch tx n i (nI 115) ∨ ch tx n i (nI 114)
  · rw [oK_s l2]
    rcases l2 with q | q
    · exact Or.inr (Or.inl q.2)
    · exact Or.inr (Or.inr (Or.inl q.2))
  by_cases l3 : ch tx n i (nI 116)
  · rw [oK_t l3]
    split
    · exact Or.inr (Or.inr (Or.inr (Or.inl l3.2)))
    · exact Or.inr (Or.inr (Or.inr (Or.inl l3.2)))
  by_cases l4 : ch tx n i (nI 106)
  · rw [oK_j l4] at h ⊢
    by_cases d1 : dg tx n (i + 1)
    · by_cases d2 : ch tx n (i + 2) (nI 58)
      · by_cases d3 : dg tx n (i + 3)
        · by_cases d4 : ch tx n (i + 4) (nI 46)
          · by_cases d5 : dg tx n (i + 5)
            · rw [if_neg (fun z => z d1), if_neg (fun z => z d2), if_neg (fun z => z d3), if_neg (fun z => z d4), if_neg (fun z => z d5)]
              exact Or.inr (Or.inr (Or.inr (Or.inr (Or.inl l4.2))))
            · rw [if_neg (fun z => z d1), if_neg (fun z => z d2), if_neg (fun z => z d3), if_neg (fun z => z d4), if_pos d5] at h
              exact nomatch h
          · rw [if_neg (fun z => z d1), if_neg (fun z => z d2), if_neg (fun z => z d3), if_pos d4] at h
            exact nomatch h
        · rw [if_neg (fun z => z d1), if_neg (fun z => z d2), if_pos d3] at h
          exact nomatch h
      · rw [if_neg (fun z => z d1), if_pos d2] at h
        exact nomatch h
    · rw [if_pos d1] at h
      exact nomatch h
  · exfalso
    unfold oK at h
    rw [if_neg l1, if_neg l2, if_neg l3, if_neg l4] at h
    exact nomatch h
theorem nE_ge {tx : Nat → Int32} {n i : Nat} (h : dg tx n i) : i + 1 ≤ nE tx n i := by
  unfold nE
  rw [if_pos h]
  split <;> omega
theorem oK_end {tx : Nat → Int32} {n i : Nat} (hi : i ≤ n) : (oK tx n i).2.1 ≤ n ∧ ((oK tx n i).1 = true → i + 2 ≤ (oK tx n i).2.1) := by
  by_cases l1 : ch tx n i (nI 100) ∨ ch tx n i (nI 112)
  · rw [oK_d l1]
    have hlt : i + 1 ≤ n := by rcases l1 with q | q <;> exact q.1
    exact ⟨nE_le hlt, fun z => nE_ge (of_decide_eq_true z)⟩
  by_cases l2 : ch tx n i (nI 115) ∨ ch tx n i (nI 114)
  · rw [oK_s l2]
    have hlt : i + 1 ≤ n := by rcases l2 with q | q <;> exact q.1
    exact ⟨dE_le hlt, fun z => by
      have z := of_decide_eq_true z
      show i + 2 ≤ dE tx n (i + 1)
      unfold dE
      rw [if_pos z]
      omega⟩
  by_cases l3 : ch tx n i (nI 116)
  · rw [oK_t l3]
    by_cases d1 : ch tx n (i + 1) (nI 45)
    · rw [if_pos d1]
      exact ⟨nE_le d1.1, fun z => by have := nE_ge (of_decide_eq_true z); show i + 2 ≤ nE tx n (i + 2); omega⟩
    · rw [if_neg d1]
      exact ⟨nE_le l3.1, fun z => nE_ge (of_decide_eq_true z)⟩
  by_cases l4 : ch tx n i (nI 106)
  · rw [oK_j l4]
    by_cases d1 : dg tx n (i + 1)
    · rw [if_neg (fun z => z d1)]
      by_cases d2 : ch tx n (i + 2) (nI 58)
      · rw [if_neg (fun z => z d2)]
        by_cases d3 : dg tx n (i + 3)
        · rw [if_neg (fun z => z d3)]
          by_cases d4 : ch tx n (i + 4) (nI 46)
          · rw [if_neg (fun z => z d4)]
            by_cases d5 : dg tx n (i + 5)
            · rw [if_neg (fun z => z d5)]
              exact ⟨d5.1, fun _ => by show i + 2 ≤ i + 6; omega⟩
            · rw [if_pos d5]
              exact ⟨d4.1, fun z => nomatch z⟩
          · rw [if_pos d4]
            exact ⟨d3.1, fun z => nomatch z⟩
        · rw [if_pos d3]
          exact ⟨d2.1, fun z => nomatch z⟩
      · rw [if_pos d2]
        exact ⟨d1.1, fun z => nomatch z⟩
    · rw [if_pos d1]
      exact ⟨l4.1, fun z => nomatch z⟩
  · unfold oK
    rw [if_neg l1, if_neg l2, if_neg l3, if_neg l4]
    exact ⟨hi, fun z => nomatch z⟩
/-- where order k begins -/
def pK (tx : Nat → Int32) (n : Nat) : Nat → Nat
  | 0 => 0
  | k + 1 => (oK tx n (pK tx n k)).2.1 + 1
/-- behind order k comes a further one -/
def more (tx : Nat → Int32) (n k : Nat) : Prop := (oK tx n (pK tx n k)).1 = true ∧ ch tx n (oK tx n (pK tx n k)).2.1 (nI 59)
/-- kk is the last order, or the one that is none -/
def lastO (tx : Nat → Int32) (n kk : Nat) : Prop := (∀ k, k < kk → more tx n k) ∧ ¬ more tx n kk
theorem lastO_one {tx : Nat → Int32} {n a b : Nat} (ha : lastO tx n a) (hb : lastO tx n b) : a = b := by
  rcases Nat.lt_trichotomy a b with q | q | q
  · exact absurd (hb.1 a q) ha.2
  · exact q
  · exact absurd (ha.1 b q) hb.2
theorem pK_le {tx : Nat → Int32} {n : Nat} : ∀ {k : Nat}, (∀ j, j < k → more tx n j) → pK tx n k ≤ n ∧ 3 * k ≤ pK tx n k
  | 0, _ => ⟨Nat.zero_le _, by omega⟩
  | k + 1, h => by
    obtain ⟨h1, h2⟩ := pK_le (k := k) (fun j hj => h j (by omega))
    obtain ⟨q1, q2⟩ := h k (by omega)
    have := (oK_end (tx := tx) h1).2 q1
    have := q2.1
    unfold pK
    omega
/-- the text is right up to its end -/
def fine (tx : Nat → Int32) (n kk : Nat) : Prop := (oK tx n (pK tx n kk)).1 = true ∧ ¬ (oK tx n (pK tx n kk)).2.1 < n
noncomputable def errI (tx : Nat → Int32) (n kk : Nat) : Int32 := @ite _ (fine tx n kk) (Classical.propDecidable _) (-1) (nI (oK tx n (pK tx n kk)).2.1)
theorem errI_t {tx : Nat → Int32} {n kk : Nat} (h : fine tx n kk) : errI tx n kk = -1 := if_pos h
theorem errI_f {tx : Nat → Int32} {n kk : Nat} (h : ¬ fine tx n kk) : errI tx n kk = nI (oK tx n (pK tx n kk)).2.1 := if_neg h
def Fo (V V' : Vl) (o : Nat) : Prop := (∀ a, (a < o ∨ o + 6 ≤ a) → V' a = V a) ∧ (∀ s, s ≠ 2 → s ≠ 3 → V' o s = V o s) ∧ V' (o + 1) = V (o + 1)
variable {E : gE} {M : gM} {P : gP} {sh : Sh} {sz : Nat} {V : Vl} {cu su pc : Nat} {L : List (Option Value)} {rest : List Value} {o n i k r : Nat} {tx : Nat → Int32} {f : Fl}
theorem OrAt.fo {V V' : Vl} (h : OrAt sh V o tx n) (hF : Fo V V' o) : OrAt sh V' o tx n := by
  obtain ⟨s, ⟨v0, v1, v4, v5, v6, v7⟩, hn, ht⟩ := h
  have e := hF.2.1
  exact ⟨s, ⟨(e 0 (by decide) (by decide)).trans v0, (e 1 (by decide) (by decide)).trans v1, (e 4 (by decide) (by decide)).trans v4, (e 5 (by decide) (by decide)).trans v5, (e 6 (by decide) (by decide)).trans v6, (e 7 (by decide) (by decide)).trans v7⟩, hn, fun m hm => by rw [hF.2.2]; exact ht m hm⟩
theorem Fo.f2 {V V' : Vl} {x : Value} (h : Fo V V' o) : Fo V (hu V' o 2 x) o := ⟨fun a ha => (hu_ne _ _ _ (by omega)).trans (h.1 a ha), fun s h2 h3 => (hu_at_ne _ _ _ h2).trans (h.2.1 s h2 h3), (hu_ne _ _ _ (by omega)).trans h.2.2⟩
theorem Fo.f3 {V V' : Vl} {x : Value} (h : Fo V V' o) : Fo V (hu V' o 3 x) o := ⟨fun a ha => (hu_ne _ _ _ (by omega)).trans (h.1 a ha), fun s h2 h3 => (hu_at_ne _ _ _ h3).trans (h.2.1 s h2 h3), (hu_ne _ _ _ (by omega)).trans h.2.2⟩
theorem Fo.ar {V V' V2 : Vl} (h : Fo V V' o) (ha : Ar V' V2 o k) : Fo V V2 o := ⟨fun a hb => (ha.1 a hb).trans (h.1 a hb), fun s h2 h3 => (ha.2.2.1 s h2).trans (h.2.1 s h2 h3), ha.2.2.2.trans h.2.2⟩
theorem OrdAt.row {V V' : Vl} {q : Int32 × Int32 × Int32 × Int32} (h : OrdAt V o k q) (e2 : V' (o + 2) k = V (o + 2) k) (e3 : V' (o + 3) k = V (o + 3) k) (e4 : V' (o + 4) k = V (o + 4) k) (e5 : V' (o + 5) k = V (o + 5) k) : OrdAt V' o k q := ⟨e2.trans h.1, e3.trans h.2.1, fun z => ⟨e4.trans (h.2.2 z).1, e5.trans (h.2.2 z).2⟩⟩
theorem OrdAt.u {V : Vl} {q : Int32 × Int32 × Int32 × Int32} {s : Nat} {x : Value} (h : OrdAt V o k q) : OrdAt (hu V o s x) o k q := h.row (congrFun (hu_ne _ _ _ (by omega)) k) (congrFun (hu_ne _ _ _ (by omega)) k) (congrFun (hu_ne _ _ _ (by omega)) k) (congrFun (hu_ne _ _ _ (by omega)) k)
theorem c_parse (h : OrAt sh V o tx n) (hP : ∀ V' kk, lastO tx n kk → Fo V V' o → (fine tx n kk → V' o 3 = .int (nI (kk + 1)) ∧ kk < 20 ∧ ∀ k, k ≤ kk → OrdAt V' o k (oK tx n (pK tx n k)).2.2) → P (.inl (some (.int (errI tx n kk)))) sh sz V') : MC E YX3_parse [.ref o] sh sz V P := by
  have s0 := h.1.1
  have hn := h.2.2.1
  refine MC.of RX3 "parse" rfl (by decide +kernel) rfl 0 [_] rfl (Nat.le_of_ble_eq_true rfl) ?_
  show G E MX3_parse _ _ _ _ _ _ _ _ _
  refine g_aload_n dX3_parse_0 rfl ?_
  refine g_iconst (v := nI 0) dX3_parse_1 (by decide) ?_
  refine g_put 5 rfl (by decide) inX3 tyX3 tyX3_ok nmX3 2 (by decide) fl_X3_19 rfl dX3_parse_2 s0 rfl rfl ?_
  refine g_aload_n dX3_parse_5 rfl ?_
  refine g_iconst (v := nI 0) dX3_parse_6 (by decide) ?_
  refine g_put 5 rfl (by decide) inX3 tyX3 tyX3_ok nmX3 3 (by decide) fl_X3_22 rfl dX3_parse_7 s0 rfl rfl ?_
  have hF0 : Fo V (hu (hu V o 2 (.int (nI 0))) o 3 (.int (nI 0))) o := Fo.f3 (Fo.f2 ⟨fun _ _ => rfl, fun _ _ _ => rfl, rfl⟩)
  suffices K : ∀ (d k : Nat), k + d = 21 → ∀ V', Fo V V' o → V' o 2 = .int (nI (pK tx n k)) → V' o 3 = .int (nI k) → (∀ j, j < k → more tx n j ∧ OrdAt V' o j (oK tx n (pK tx n j)).2.2) → G E MX3_parse P sh sz V' 0 0 10 [some (.ref o)] [] from K 21 0 rfl _ hF0 ((hu_at_ne _ _ _ (by decide)).trans (hu_at _ _ _ _)) (hu_at _ _ _ _) (fun j hj => absurd hj (Nat.not_lt_zero j))
  intro d
  induction d with
  | zero =>
    intro k hk V' hF v2 v3 hm
    have := (pK_le (k := k) (fun j hj => (hm j hj).1))
    omega
  | succ d ih =>
    intro k hk V' hF v2 v3 hm
    have hpk := pK_le (k := k) (fun j hj => (hm j hj).1)
    have hOr := h.fo hF
    refine g_aload_n dX3_parse_10 rfl ?_
    refine g_get 5 rfl (by decide) inX3 3 (by decide) fl_X3_22 dX3_parse_11 s0 v3 ?_
    by_cases hk20 : k = 20
    · subst hk20
      refine g_bipush (v := nI 20) dX3_parse_14 (by decide) ?_
      refine g_icmp_ge (tgt := 68) dX3_parse_16 (by decide) (fun _ => ?_) (fun hq => absurd (Int32.le_refl _) hq)
      refine g_aload_n dX3_parse_68 rfl ?_
      refine g_get 5 rfl (by decide) inX3 2 (by decide) fl_X3_19 dX3_parse_69 s0 v2 ?_
      have e0 := oK_0 (tx := tx) (n := n) (i := pK tx n 20) (fun q => by omega)
      have hnf : ¬ fine tx n 20 := fun q => by
        have := q.1
        rw [e0] at this
        exact nomatch this
      have hP := hP V' 20 ⟨fun j hj => (hm j hj).1, fun q => by
        have := q.1
        rw [e0] at this
        exact nomatch this⟩ hF (fun q => absurd q hnf)
      rw [errI_f hnf, e0] at hP
      exact g_iret rfl (nr_int _) dX3_parse_72 (by decide) hP
    · refine g_bipush (v := nI 20) dX3_parse_14 (by decide) ?_
      refine g_icmp_ge (tgt := 68) dX3_parse_16 (by decide) (fun hq => absurd hq (nI_ge (by omega) (by decide))) (fun _ => ?_)
      have hz : Pz sh V' o tx n (pK tx n k) k := ⟨hOr, v2, v3, hpk.1⟩
      refine g_aload_n dX3_parse_19 rfl ?_
      refine g_callVw (Y := YX3_parseOrder) sv_X3_38 rfl yn_X3_parseOrder 5 (by decide) rfl rfl dX3_parse_20 (c_parseOrder (P := pW (fun v V2 => v = .int (bi ((oK tx n (pK tx n k)).1 = true)) ∧ Ar V' V2 o k ∧ V2 o 2 = .int (nI (oK tx n (pK tx n k)).2.1) ∧ ((oK tx n (pK tx n k)).1 = true → OrdAt V2 o k (oK tx n (pK tx n k)).2.2)) sh sz) hz (by omega) (fun V2 q1 q2 q3 => ⟨_, rfl, rfl, rfl, rfl, q1, q2, q3⟩)) s0 rfl rfl rfl (Nat.le_of_ble_eq_true rfl) ⟨rfl, rfl⟩ (fun v V2 q => ?_)
      obtain ⟨rfl, q1, q2, q3⟩ := q
      have hend := oK_end (tx := tx) hpk.1
      have hF2 : Fo V V2 o := hF.ar q1
      refine g_if_ne (tgt := 31) dX3_parse_23 (by decide) (fun b1 => ?_) (fun b1 => ?_)
      · have hok := bi_ne b1
        have w3 : V2 o 3 = .int (nI k) := (q1.2.2.1 3 (by decide)).trans v3
        have w1 : V2 o 1 = .int (nI n) := (q1.2.2.1 1 (by decide)).trans hOr.2.1.2.1
        refine g_aload_n dX3_parse_31 rfl ?_
        refine g_dup dX3_parse_32 rfl ?_
        refine g_get 5 rfl (by decide) inX3 3 (by decide) fl_X3_22 dX3_parse_33 s0 w3 ?_
        refine g_iconst (v := nI 1) dX3_parse_36 (by decide) ?_
        refine g_iadd dX3_parse_37 ?_
        rw [nI_add]
        refine g_put 5 rfl (by decide) inX3 tyX3 tyX3_ok nmX3 3 (by decide) fl_X3_22 rfl dX3_parse_38 s0 rfl rfl ?_
        refine g_aload_n dX3_parse_41 rfl ?_
        refine g_get 5 rfl (by decide) inX3 2 (by decide) fl_X3_19 dX3_parse_42 s0 ((hu_at_ne _ _ _ (by decide)).trans q2) ?_
        refine g_aload_n dX3_parse_45 rfl ?_
        refine g_get 5 rfl (by decide) inX3 1 (by decide) fl_X3_15 dX3_parse_46 s0 ((hu_at_ne _ _ _ (by decide)).trans w1) ?_
        have hrow : ∀ j, j ≤ k → OrdAt (hu V2 o 3 (.int (nI (k + 1)))) o j (oK tx n (pK tx n j)).2.2 := fun j hj => by
          by_cases z : j = k
          · subst z; exact (q3 hok).u
          · obtain ⟨e2, e3, e4, e5⟩ := q1.2.1 j z
            exact ((hm j (by omega)).2.row e2 e3 e4 e5).u
        refine g_icmp_lt (tgt := 54) dX3_parse_49 (by decide) (fun b2 => ?_) (fun b2 => ?_)
        · rw [nI_ltI (by omega) (by omega)] at b2
          have hz2 : Pz sh (hu V2 o 3 (.int (nI (k + 1)))) o tx n (oK tx n (pK tx n k)).2.1 (k + 1) := ⟨h.fo hF2.f3, (hu_at_ne _ _ _ (by decide)).trans q2, hu_at _ _ _ _, hend.1⟩
          refine g_aload_n dX3_parse_54 rfl ?_
          refine g_bipush (v := nI 59) dX3_parse_55 (by decide) ?_
          refine g_callVw (Y := YX3_skip) (Q := (fun v V3 => v = .int (bi (ch tx n (oK tx n (pK tx n k)).2.1 (nI 59))) ∧ V3 = hu (hu V2 o 3 (.int (nI (k + 1)))) o 2 (.int (nI (if ch tx n (oK tx n (pK tx n k)).2.1 (nI 59) then (oK tx n (pK tx n k)).2.1 + 1 else (oK tx n (pK tx n k)).2.1))))) sv_X3_42 rfl yn_X3_skip 5 (by decide) rfl rfl dX3_parse_57 (c_skip hz2 ⟨_, rfl, rfl, rfl, rfl, rfl⟩) s0 rfl rfl rfl (Nat.le_of_ble_eq_true rfl) ⟨rfl, rfl⟩ (fun v V3 q => ?_)
          obtain ⟨rfl, rfl⟩ := q
          refine g_if_ne (tgt := 10) dX3_parse_60 (by decide) (fun b3 => ?_) (fun b3 => ?_)
          · have hc := bi_ne b3
            rw [if_pos hc]
            refine ih (k + 1) (by omega) _ (Fo.f2 hF2.f3) (hu_at _ _ _ _) ((hu_at_ne _ _ _ (by decide)).trans (hu_at _ _ _ _)) (fun j hj => ⟨?_, (hrow j (by omega)).u⟩)
            by_cases z : j = k
            · subst z; exact ⟨hok, hc⟩
            · exact (hm j (by omega)).1
          · have hc := bi_eq b3
            rw [if_neg hc]
            have hnf : ¬ fine tx n k := fun q => q.2 b2
            have hP := hP (hu (hu V2 o 3 (.int (nI (k + 1)))) o 2 (.int (nI (oK tx n (pK tx n k)).2.1))) k ⟨fun j hj => (hm j hj).1, fun q => hc q.2⟩ (Fo.f2 hF2.f3) (fun q => absurd q hnf)
            rw [errI_f hnf] at hP
            refine g_aload_n dX3_parse_63 rfl ?_
            refine g_get 5 rfl (by decide) inX3 2 (by decide) fl_X3_19 dX3_parse_64 s0 (hu_at _ _ _ _) ?_
            exact g_iret rfl (nr_int _) dX3_parse_67 (by decide) hP
        · rw [nI_ltI (by omega) (by omega)] at b2
          have hf : fine tx n k := ⟨hok, b2⟩
          have hP := hP (hu V2 o 3 (.int (nI (k + 1)))) k ⟨fun j hj => (hm j hj).1, fun q => b2 q.2.1⟩ hF2.f3 (fun _ => ⟨hu_at _ _ _ _, by omega, hrow⟩)
          rw [errI_t hf] at hP
          refine g_iconst (v := (-1)) dX3_parse_52 (by decide) ?_
          exact g_iret rfl (nr_int _) dX3_parse_53 (by decide) hP
      · have hok := bi_eq b1
        have hnf : ¬ fine tx n k := fun q => hok q.1
        have hP := hP V2 k ⟨fun j hj => (hm j hj).1, fun q => hok q.1⟩ hF2 (fun q => absurd q hnf)
        rw [errI_f hnf] at hP
        refine g_aload_n dX3_parse_26 rfl ?_
        refine g_get 5 rfl (by decide) inX3 2 (by decide) fl_X3_19 dX3_parse_27 s0 q2 ?_
        exact g_iret rfl (nr_int _) dX3_parse_30 (by decide) hP
end CARRY

