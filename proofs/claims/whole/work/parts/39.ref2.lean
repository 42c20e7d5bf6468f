/-! the reference: who is at a mile, what bars a convoy -/
section REF2
theorem mw_int {l g k : Nat} (hl : l < 1000) (hg : g < 1000) (hk : k < 1000) : (mw (nI l) (nI g) k).toInt = (l : Int) - k * (g + 1) := by
  unfold mw
  rw [nI_add, pk_mul]
  have h1 : k * (g + 1) ≤ 999 * 1000 := Nat.mul_le_mul (by omega) (by omega)
  rw [pk_sub_toInt (by omega) (by omega)]
  push_cast
  rfl
theorem mw_neg {g k : Nat} (hg : g < 1000) (hk : k < 1000) : mw (-1) (nI g) k < 0 := by
  have e : mw (-1) (nI g) k = nI 0 - nI (k * (g + 1) + 1) := by
    unfold mw
    rw [nI_add, pk_mul, ← nI_add]
    show -nI 1 - _ = 0 - (_ + nI 1)
    generalize nI (k * (g + 1)) = y
    generalize nI 1 = o
    rw [Int32.zero_sub, Int32.add_comm, Int32.neg_add]
  rw [e]
  have h1 : k * (g + 1) ≤ 999 * 1000 := Nat.mul_le_mul (by omega) (by omega)
  exact pk_sneg (by omega) (by omega)
variable {E : gE} {M : gM} {P : gP} {sh : Sh} {sz : Nat} {V V' : Vl} {cu su pc : Nat} {L : List (Option Value)} {rest : List Value} {m : Nat} {f : Fl}
/-- a convoy that has not started is at no mile -/
theorem paF_ns {c : Nat} {mi : Int32} (h : iC f c) (h0 : ¬ 0 ≤ f (oC c 2)) (hm : 0 ≤ mi) : ¬ 0 ≤ paF f c mi := by
  obtain ⟨⟨g, g1, g2, eg⟩, i1, i2, st, i4⟩ := h
  have e2 : f (oC c 2) = -1 := by
    rcases st with ⟨a, b⟩ | ⟨a, -, l, hl, b⟩
    · exact b
    · rw [b] at h0
      exact absurd (nI_pos' (by omega)) h0
  unfold paF
  rw [fstI_none (fun k hk => decide_eq_false (fun q => by
    rw [e2, eg] at q
    have := mw_neg (g := g) (k := k) (by omega) (by omega)
    rw [q] at this
    exact Int32.not_le.mpr this hm))]
  decide
theorem whoV_of {c : Nat} {mi w : Int32} (hc : c < cnt f) (h : nI c ≠ w ∧ 0 ≤ paF f c mi) (hl : ∀ d, d < c → ¬ (nI d ≠ w ∧ 0 ≤ paF f d mi)) : whoV f mi w = nI 10 * nI c + paF f c mi := by
  have e := fa_first_eq hc (cb_t h) (fun k hk => cb_f (hl k hk))
  unfold whoV
  rw [e, if_pos hc]
theorem whoV_no {mi w : Int32} (hl : ∀ d, d < cnt f → ¬ (nI d ≠ w ∧ 0 ≤ paF f d mi)) : whoV f mi w = -1 := by
  unfold whoV
  rw [if_neg (fa_first_none (fun k hk => cb_f (hl k hk)))]
theorem fstI_nI {p : Nat → Bool} {n : Nat} (h : 0 ≤ fstI p n) : ∃ k, k < n ∧ fstI p n = nI k ∧ p k = true ∧ ∀ j, j < k → p j = false := by
  unfold fstI at h ⊢
  by_cases q : fa_first p n < n
  · rw [if_pos q]
    exact ⟨_, q, rfl, fa_first_yes p n q, fa_first_no p n⟩
  · rw [if_neg q] at h
    exact absurd h (by decide)
theorem whoV_neg (hI : InvB f) {mi w : Int32} : whoV f mi w < 0 ↔ ¬ tkn f mi w := by
  have h44 := hI.1.2
  by_cases q : fa_first (fun c => cb (nI c ≠ w ∧ 0 ≤ paF f c mi)) (cnt f) < cnt f
  · have hy := cb_iff.mp (fa_first_yes (fun c => cb (nI c ≠ w ∧ 0 ≤ paF f c mi)) _ q)
    have hn := fa_first_no (fun c => cb (nI c ≠ w ∧ 0 ≤ paF f c mi)) (cnt f)
    generalize fa_first (fun c => cb (nI c ≠ w ∧ 0 ≤ paF f c mi)) (cnt f) = c at q hy hn
    rw [whoV_of q hy (fun d hd r => by
      have := hn d hd
      rw [cb_t r] at this
      cases this)]
    obtain ⟨k, hk, ek, -⟩ := fstI_nI hy.2
    have i2 := (hI.cv q).2.2.1
    unfold paF
    rw [ek, pk_mul, nI_add]
    exact ⟨fun z => absurd z (nI_pos (by omega)), fun z => absurd ⟨c, q, hy.1, hy.2⟩ z⟩
  · have hl : ∀ d, d < cnt f → ¬ (nI d ≠ w ∧ 0 ≤ paF f d mi) := fun d hd r => by
      have := fa_first_no (fun c => cb (nI c ≠ w ∧ 0 ≤ paF f c mi)) (cnt f) d (by omega)
      rw [cb_t r] at this
      cases this
    rw [whoV_no hl]
    exact ⟨fun _ => fun ⟨c, h1, h2, h3⟩ => hl c h1 ⟨h2, h3⟩, fun _ => by decide⟩
theorem SA.many (h : SA sh V m f) (hI : InvB f) : V (m + 1) (nI 1).toNatClampNeg = .int (nI (cnt f)) := by
  have := h.rd (k := 1) (by decide)
  rw [hI.1.1] at this
  exact this
theorem k_whoIsAt {mi w : Int32} (h : SA sh V m f) (hI : InvB f) (hm : 0 ≤ mi) (hP : P (.inl (some (.int (whoV f mi w)))) sh sz V) : MC E YX7_whoIsAt [.ref m, .int mi, .int w] sh sz V P := by
  have h44 := hI.1.2
  refine MC.of RX7 "whoIsAt" rfl (by decide +kernel) rfl 2 [_, _, _, none, none] rfl (Nat.le_of_ble_eq_true rfl) ?_
  show G E MX7_whoIsAt _ _ _ _ _ _ _ _ _
  refine g_iconst (v := nI 0) dX7_whoIsAt_0 (by decide) ?_
  refine g_istore_n dX7_whoIsAt_1 (by decide) rfl ?_
  show G _ _ _ _ _ _ _ _ _ [_, _, _, _, _] _
  suffices K : ∀ (d c : Nat), c + d = cnt f → (∀ j, j < c → ¬ (nI j ≠ w ∧ 0 ≤ paF f j mi)) → ∀ z, G E MX7_whoIsAt P sh sz V 0 0 2 [some (.ref m), some (.int mi), some (.int w), some (.int (nI c)), z] [] from K (cnt f) 0 (Nat.zero_add _) (fun j hj => absurd hj (Nat.not_lt_zero j)) _
  intro d
  induction d with
  | zero =>
    intro c hc hno z
    have hc : c = cnt f := by omega
    rw [whoV_no (fun d hd => hno d (by omega))] at hP
    refine g_iload_n dX7_whoIsAt_2 rfl ?_
    refine g_aload_n dX7_whoIsAt_3 rfl ?_
    refine g_get 9 rfl (by decide) inX7 0 (by decide) fl_X7_9 dX7_whoIsAt_4 h.1 h.2.2.1 ?_
    refine g_iconst (v := nI 1) dX7_whoIsAt_7 (by decide) ?_
    refine g_iaload dX7_whoIsAt_8 h.2.1 (vp_in_nI (by decide) (by decide)) (h.many hI) ?_
    refine g_icmp_ge (tgt := 76) dX7_whoIsAt_9 (by decide) (fun _ => ?_) (fun hq => absurd (nI_le (by omega) (by omega)) hq)
    refine g_iconst (v := (-1)) dX7_whoIsAt_76 (by decide) ?_
    exact g_iret rfl (nr_int _) dX7_whoIsAt_77 (by decide) hP
  | succ d ih =>
    intro c hcd hno z
    have hc : c < cnt f := by omega
    obtain ⟨i0, i1, i2, i3, i4⟩ := hI.cv hc
    have next : ¬ (nI c ≠ w ∧ 0 ≤ paF f c mi) → ∀ z, G E MX7_whoIsAt P sh sz V 0 0 70 [some (.ref m), some (.int mi), some (.int w), some (.int (nI c)), z] [] := by
      intro hn z
      have ih := ih (c + 1) (by omega) (fun j hj => by
        rcases Nat.lt_or_ge j c with y | y
        · exact hno j y
        · rw [show j = c by omega]
          exact hn) z
      refine g_iinc dX7_whoIsAt_70 rfl (by first | exact nI_inc _ | rfl) (by decide) rfl ?_
      show G _ _ _ _ _ _ _ _ _ [_, _, _, _, _] _
      refine g_jump (tgt := 2) dX7_whoIsAt_73 (by decide) ?_
      exact ih
    refine g_iload_n dX7_whoIsAt_2 rfl ?_
    refine g_aload_n dX7_whoIsAt_3 rfl ?_
    refine g_get 9 rfl (by decide) inX7 0 (by decide) fl_X7_9 dX7_whoIsAt_4 h.1 h.2.2.1 ?_
    refine g_iconst (v := nI 1) dX7_whoIsAt_7 (by decide) ?_
    refine g_iaload dX7_whoIsAt_8 h.2.1 (vp_in_nI (by decide) (by decide)) (h.many hI) ?_
    refine g_icmp_ge (tgt := 76) dX7_whoIsAt_9 (by decide) (fun hq => absurd hq (nI_ge (by omega) (by omega))) (fun _ => ?_)
    refine g_iconst (v := nI 0) dX7_whoIsAt_12 (by decide) ?_
    refine g_istore dX7_whoIsAt_13 (by decide) rfl ?_
    show G _ _ _ _ _ _ _ _ _ [_, _, _, _, _] _
    suffices K : ∀ (e k : Nat), k + e = ncv f c → (∀ j, j < k → ¬ mw (f (oC c 2)) (f (oC c 0)) j = mi) → G E MX7_whoIsAt P sh sz V 0 0 15 [some (.ref m), some (.int mi), some (.int w), some (.int (nI c)), some (.int (nI k))] [] from K (ncv f c) 0 (Nat.zero_add _) (fun j hj => absurd hj (Nat.not_lt_zero j))
    intro e
    induction e with
    | zero =>
      intro k hk hnk
      have hk : k = ncv f c := by omega
      have nx := next (fun q => by
        have : paF f c mi = -1 := fstI_none (fun j hj => decide_eq_false (hnk j (by omega)))
        rw [this] at q
        exact absurd q.2 (by decide)) (some (.int (nI k)))
      refine g_iload dX7_whoIsAt_15 rfl ?_
      refine g_aload_n dX7_whoIsAt_17 rfl ?_
      refine g_iload_n dX7_whoIsAt_18 rfl ?_
      refine g_iconst (v := nI 1) dX7_whoIsAt_19 (by decide) ?_
      refine g_callVp (Y := YX7_convoy1) sv_X7_81 rfl yn_X7_convoy1 9 (by decide) rfl rfl dX7_whoIsAt_20 (k_convoy1 h (c := c) (k := 1) (by omega) (by decide) pR_ok) h.1 rfl rfl rfl (Nat.le_of_ble_eq_true rfl) ⟨rfl, rfl⟩ ?_
      rw [i1]
      refine g_icmp_ge (tgt := 70) dX7_whoIsAt_23 (by decide) (fun _ => ?_) (fun hq => absurd (nI_le (by omega) (by omega)) hq)
      exact nx
    | succ e ihk =>
      intro k hk hnk
      have nxs := fun q => next (fun r => paF_ns (hI.cv hc) q hm r.2) (some (.int (nI k)))
      have nxw := fun (q : nI c = w) => next (fun r => r.1 q) (some (.int (nI k)))
      refine g_iload dX7_whoIsAt_15 rfl ?_
      refine g_aload_n dX7_whoIsAt_17 rfl ?_
      refine g_iload_n dX7_whoIsAt_18 rfl ?_
      refine g_iconst (v := nI 1) dX7_whoIsAt_19 (by decide) ?_
      refine g_callVp (Y := YX7_convoy1) sv_X7_81 rfl yn_X7_convoy1 9 (by decide) rfl rfl dX7_whoIsAt_20 (k_convoy1 h (c := c) (k := 1) (by omega) (by decide) pR_ok) h.1 rfl rfl rfl (Nat.le_of_ble_eq_true rfl) ⟨rfl, rfl⟩ ?_
      rw [i1]
      refine g_icmp_ge (tgt := 70) dX7_whoIsAt_23 (by decide) (fun hq => absurd hq (nI_ge (by omega) (by omega))) (fun _ => ?_)
      refine g_aload_n dX7_whoIsAt_26 rfl ?_
      refine g_iload_n dX7_whoIsAt_27 rfl ?_
      refine g_callVp (Y := YX7_isStarted) sv_X7_144 rfl yn_X7_isStarted 9 (by decide) rfl rfl dX7_whoIsAt_28 (k_isStarted h hI hc pR_ok) h.1 rfl rfl rfl (Nat.le_of_ble_eq_true rfl) ⟨rfl, rfl⟩ ?_
      refine g_if_eq (tgt := 70) dX7_whoIsAt_31 (by decide) (fun b1 => ?_) (fun b1 => ?_)
      · exact nxs (bi_eq b1)
      refine g_iload_n dX7_whoIsAt_34 rfl ?_
      refine g_iload_n dX7_whoIsAt_35 rfl ?_
      refine g_icmp_eq (tgt := 70) dX7_whoIsAt_36 (by decide) (fun b2 => ?_) (fun b2 => ?_)
      · exact nxw b2
      refine g_aload_n dX7_whoIsAt_39 rfl ?_
      refine g_iload_n dX7_whoIsAt_40 rfl ?_
      refine g_iload dX7_whoIsAt_41 rfl ?_
      refine g_aload_n dX7_whoIsAt_43 rfl ?_
      refine g_iload_n dX7_whoIsAt_44 rfl ?_
      refine g_iconst (v := nI 2) dX7_whoIsAt_45 (by decide) ?_
      refine g_callVp (Y := YX7_convoy1) sv_X7_81 rfl yn_X7_convoy1 9 (by decide) rfl rfl dX7_whoIsAt_46 (k_convoy1 h (c := c) (k := 2) (by omega) (by decide) pR_ok) h.1 rfl rfl rfl (Nat.le_of_ble_eq_true rfl) ⟨rfl, rfl⟩ ?_
      refine g_callVp (Y := YX7_mileBy) sv_X7_147 rfl yn_X7_mileBy 9 (by decide) rfl rfl dX7_whoIsAt_49 (k_mileBy h (c := c) (p := k) (by omega) pR_ok) h.1 rfl rfl rfl (Nat.le_of_ble_eq_true rfl) ⟨rfl, rfl⟩ ?_
      refine g_iload_n dX7_whoIsAt_52 rfl ?_
      refine g_icmp_ne (tgt := 64) dX7_whoIsAt_53 (by decide) (fun b3 => ?_) (fun b3 => ?_)
      · have ihk := ihk (k + 1) (by omega) (fun j hj => by
          rcases Nat.lt_or_ge j k with y | y
          · exact hnk j y
          · rw [show j = k by omega]
            exact b3)
        refine g_iinc dX7_whoIsAt_64 rfl (by first | exact nI_inc _ | rfl) (by decide) rfl ?_
        show G _ _ _ _ _ _ _ _ _ [_, _, _, _, _] _
        refine g_jump (tgt := 15) dX7_whoIsAt_67 (by decide) ?_
        exact ihk
      · have ep : paF f c mi = nI k := fstI_eq (by omega) (decide_eq_true b3) (fun j hj => decide_eq_false (hnk j hj))
        rw [whoV_of hc ⟨b2, by rw [ep]; exact nI_pos' (by omega)⟩ hno, ep] at hP
        refine g_bipush (v := nI 10) dX7_whoIsAt_56 (by decide) ?_
        refine g_iload_n dX7_whoIsAt_58 rfl ?_
        refine g_imul dX7_whoIsAt_59 ?_
        refine g_iload dX7_whoIsAt_60 rfl ?_
        refine g_iadd dX7_whoIsAt_62 ?_
        exact g_iret rfl (nr_int _) dX7_whoIsAt_63 (by decide) hP
/-- a reason with its detail, 100 times the one and the other -/
def e100 (z : Int32 × Int32) : Int32 := z.1 * nI 100 + z.2
theorem k_barred {c : Nat} {ld : Int32} (h : SA sh V m f) (hI : InvB f) (hc : c < cnt f) (hP : P (.inl (some (.int (e100 (way f c ld))))) sh sz V) : MC E YX7_barred [.ref m, .int (nI c), .int ld] sh sz V P := by
  have h44 := hI.1.2
  obtain ⟨i0, i1, i2, i3, i4⟩ := hI.cv hc
  refine MC.of RX7 "barred" rfl (by decide +kernel) rfl 2 [_, _, _, none, none] rfl (Nat.le_of_ble_eq_true rfl) ?_
  show G E MX7_barred _ _ _ _ _ _ _ _ _
  refine g_iconst (v := nI 0) dX7_barred_0 (by decide) ?_
  refine g_istore_n dX7_barred_1 (by decide) rfl ?_
  show G _ _ _ _ _ _ _ _ _ [_, _, _, _, _] _
  suffices K : ∀ (d k : Nat), k + d = ncv f c → (∀ j, j < k → ¬ bk f c ld j) → ∀ z, G E MX7_barred P sh sz V 0 0 2 [some (.ref m), some (.int (nI c)), some (.int ld), some (.int (nI k)), z] [] from K (ncv f c) 0 (Nat.zero_add _) (fun j hj => absurd hj (Nat.not_lt_zero j)) _
  intro d
  induction d with
  | succ d ih =>
    intro k hk hno z
    have nx : ¬ bk f c ld k → ∀ z, G E MX7_barred P sh sz V 0 0 46 [some (.ref m), some (.int (nI c)), some (.int ld), some (.int (nI k)), z] [] := by
      intro hn z
      have ih := ih (k + 1) (by omega) (fun j hj => by
        rcases Nat.lt_or_ge j k with y | y
        · exact hno j y
        · rw [show j = k by omega]
          exact hn) z
      refine g_iinc dX7_barred_46 rfl (by first | exact nI_inc _ | rfl) (by decide) rfl ?_
      show G _ _ _ _ _ _ _ _ _ [_, _, _, _, _] _
      refine g_jump (tgt := 2) dX7_barred_49 (by decide) ?_
      exact ih
    refine g_iload_n dX7_barred_2 rfl ?_
    refine g_aload_n dX7_barred_3 rfl ?_
    refine g_iload_n dX7_barred_4 rfl ?_
    refine g_iconst (v := nI 1) dX7_barred_5 (by decide) ?_
    refine g_callVp (Y := YX7_convoy1) sv_X7_81 rfl yn_X7_convoy1 9 (by decide) rfl rfl dX7_barred_6 (k_convoy1 h (c := c) (k := 1) (by omega) (by decide) pR_ok) h.1 rfl rfl rfl (Nat.le_of_ble_eq_true rfl) ⟨rfl, rfl⟩ ?_
    rw [i1]
    refine g_icmp_ge (tgt := 52) dX7_barred_9 (by decide) (fun hq => absurd hq (nI_ge (by omega) (by omega))) (fun _ => ?_)
    refine g_aload_n dX7_barred_12 rfl ?_
    refine g_iload_n dX7_barred_13 rfl ?_
    refine g_iload_n dX7_barred_14 rfl ?_
    refine g_iload_n dX7_barred_15 rfl ?_
    refine g_callVp (Y := YX7_mileBy) sv_X7_147 rfl yn_X7_mileBy 9 (by decide) rfl rfl dX7_barred_16 (k_mileBy h (c := c) (p := k) (by omega) pR_ok) h.1 rfl rfl rfl (Nat.le_of_ble_eq_true rfl) ⟨rfl, rfl⟩ ?_
    refine g_istore dX7_barred_19 (by decide) rfl ?_
    show G _ _ _ _ _ _ _ _ _ [_, _, _, _, _] _
    refine g_iload dX7_barred_21 rfl ?_
    refine g_callSp (Y := YX7_isMile) ss_X7_101 yn_X7_isMile dX7_barred_23 (k_isMile pR_ok) rfl rfl rfl (Nat.le_of_ble_eq_true rfl) ⟨rfl, rfl⟩ ?_
    refine g_if_eq (tgt := 46) dX7_barred_26 (by decide) (fun b1 => ?_) (fun b1 => ?_)
    · exact nx (fun q => bi_eq b1 q.1) _
    have b1 := bi_ne b1
    refine g_aload_n dX7_barred_29 rfl ?_
    refine g_iload dX7_barred_30 rfl ?_
    refine g_iload_n dX7_barred_32 rfl ?_
    refine g_callVp (Y := YX7_whoIsAt) sv_X7_120 rfl yn_X7_whoIsAt 9 (by decide) rfl rfl dX7_barred_33 (k_whoIsAt h hI b1.1 pR_ok) h.1 rfl rfl rfl (Nat.le_of_ble_eq_true rfl) ⟨rfl, rfl⟩ ?_
    refine g_if_lt (tgt := 46) dX7_barred_36 (by decide) (fun b2 => ?_) (fun b2 => ?_)
    · exact nx (fun q => (whoV_neg hI).mp b2 q.2) _
    · have hb : bk f c ld k := ⟨b1, Classical.byContradiction fun q => b2 ((whoV_neg hI).mpr q)⟩
      rw [way_7 (by omega) hb hno] at hP
      refine g_sipush (v := nI 700) dX7_barred_39 (by decide) ?_
      refine g_iload dX7_barred_42 rfl ?_
      refine g_iadd dX7_barred_44 ?_
      exact g_iret rfl (nr_int _) dX7_barred_45 (by decide) hP
  | zero =>
    intro k hk hno z
    have hb : ∀ j, j < ncv f c → ¬ bk f c ld j := fun j hj => hno j (by omega)
    refine g_iload_n dX7_barred_2 rfl ?_
    refine g_aload_n dX7_barred_3 rfl ?_
    refine g_iload_n dX7_barred_4 rfl ?_
    refine g_iconst (v := nI 1) dX7_barred_5 (by decide) ?_
    refine g_callVp (Y := YX7_convoy1) sv_X7_81 rfl yn_X7_convoy1 9 (by decide) rfl rfl dX7_barred_6 (k_convoy1 h (c := c) (k := 1) (by omega) (by decide) pR_ok) h.1 rfl rfl rfl (Nat.le_of_ble_eq_true rfl) ⟨rfl, rfl⟩ ?_
    rw [i1]
    refine g_icmp_ge (tgt := 52) dX7_barred_9 (by decide) (fun _ => ?_) (fun hq => absurd (nI_le (by omega) (by omega)) hq)
    refine g_iconst (v := nI 0) dX7_barred_52 (by decide) ?_
    refine g_istore_n dX7_barred_53 (by decide) rfl ?_
    show G _ _ _ _ _ _ _ _ _ [_, _, _, _, _] _
    suffices K : ∀ (d k : Nat), k + d = ncv f c → (∀ j, j < k → ¬ wk f c ld j) → ∀ z, G E MX7_barred P sh sz V 0 0 54 [some (.ref m), some (.int (nI c)), some (.int ld), some (.int (nI k)), z] [] from K (ncv f c) 0 (Nat.zero_add _) (fun j hj => absurd hj (Nat.not_lt_zero j)) _
    intro d
    induction d with
    | zero =>
      intro k hk hno z
      rw [way_0 hb (fun j hj => hno j (by omega))] at hP
      refine g_iload_n dX7_barred_54 rfl ?_
      refine g_aload_n dX7_barred_55 rfl ?_
      refine g_iload_n dX7_barred_56 rfl ?_
      refine g_iconst (v := nI 1) dX7_barred_57 (by decide) ?_
      refine g_callVp (Y := YX7_convoy1) sv_X7_81 rfl yn_X7_convoy1 9 (by decide) rfl rfl dX7_barred_58 (k_convoy1 h (c := c) (k := 1) (by omega) (by decide) pR_ok) h.1 rfl rfl rfl (Nat.le_of_ble_eq_true rfl) ⟨rfl, rfl⟩ ?_
      rw [i1]
      refine g_icmp_ge (tgt := 110) dX7_barred_61 (by decide) (fun _ => ?_) (fun hq => absurd (nI_le (by omega) (by omega)) hq)
      refine g_iconst (v := nI 0) dX7_barred_110 (by decide) ?_
      exact g_iret rfl (nr_int _) dX7_barred_111 (by decide) hP
    | succ d ih =>
      intro k hk hno z
      have nx : ¬ wk f c ld k → ∀ z, G E MX7_barred P sh sz V 0 0 104 [some (.ref m), some (.int (nI c)), some (.int ld), some (.int (nI k)), z] [] := by
        intro hn z
        have ih := ih (k + 1) (by omega) (fun j hj => by
          rcases Nat.lt_or_ge j k with y | y
          · exact hno j y
          · rw [show j = k by omega]
            exact hn) z
        refine g_iinc dX7_barred_104 rfl (by first | exact nI_inc _ | rfl) (by decide) rfl ?_
        show G _ _ _ _ _ _ _ _ _ [_, _, _, _, _] _
        refine g_jump (tgt := 54) dX7_barred_107 (by decide) ?_
        exact ih
      refine g_iload_n dX7_barred_54 rfl ?_
      refine g_aload_n dX7_barred_55 rfl ?_
      refine g_iload_n dX7_barred_56 rfl ?_
      refine g_iconst (v := nI 1) dX7_barred_57 (by decide) ?_
      refine g_callVp (Y := YX7_convoy1) sv_X7_81 rfl yn_X7_convoy1 9 (by decide) rfl rfl dX7_barred_58 (k_convoy1 h (c := c) (k := 1) (by omega) (by decide) pR_ok) h.1 rfl rfl rfl (Nat.le_of_ble_eq_true rfl) ⟨rfl, rfl⟩ ?_
      rw [i1]
      refine g_icmp_ge (tgt := 110) dX7_barred_61 (by decide) (fun hq => absurd hq (nI_ge (by omega) (by omega))) (fun _ => ?_)
      refine g_aload_n dX7_barred_64 rfl ?_
      refine g_iload_n dX7_barred_65 rfl ?_
      refine g_iload_n dX7_barred_66 rfl ?_
      refine g_iload_n dX7_barred_67 rfl ?_
      refine g_callVp (Y := YX7_mileBy) sv_X7_147 rfl yn_X7_mileBy 9 (by decide) rfl rfl dX7_barred_68 (k_mileBy h (c := c) (p := k) (by omega) pR_ok) h.1 rfl rfl rfl (Nat.le_of_ble_eq_true rfl) ⟨rfl, rfl⟩ ?_
      refine g_istore dX7_barred_71 (by decide) rfl ?_
      show G _ _ _ _ _ _ _ _ _ [_, _, _, _, _] _
      refine g_iload dX7_barred_73 rfl ?_
      refine g_callSp (Y := YX7_isMile) ss_X7_101 yn_X7_isMile dX7_barred_75 (k_isMile pR_ok) rfl rfl rfl (Nat.le_of_ble_eq_true rfl) ⟨rfl, rfl⟩ ?_
      refine g_if_eq (tgt := 104) dX7_barred_78 (by decide) (fun b1 => ?_) (fun b1 => ?_)
      · exact nx (fun q => bi_eq b1 q.1) _
      have b1 := bi_ne b1
      obtain ⟨j, hj, ej⟩ := isM_nI b1
      rw [ej]
      refine g_aload_n dX7_barred_81 rfl ?_
      refine g_iload dX7_barred_82 rfl ?_
      refine g_callVp (Y := YX7_bearsOf) sv_X7_117 rfl yn_X7_bearsOf 9 (by decide) rfl rfl dX7_barred_84 (k_bearsOf h hI hj pR_ok) h.1 rfl rfl rfl (Nat.le_of_ble_eq_true rfl) ⟨rfl, rfl⟩ ?_
      refine g_aload_n dX7_barred_87 rfl ?_
      refine g_iload_n dX7_barred_88 rfl ?_
      refine g_iload_n dX7_barred_89 rfl ?_
      refine g_callVp (Y := YX7_loadOf) sv_X7_150 rfl yn_X7_loadOf 9 (by decide) rfl rfl dX7_barred_90 (k_loadOf h hI hc (p := k) (by omega) pR_ok) h.1 rfl rfl rfl (Nat.le_of_ble_eq_true rfl) ⟨rfl, rfl⟩ ?_
      refine g_fcmp dX7_barred_93 ?_
      have eb : bd f j = bd f (mw ld (f (oC c 0)) k).toNatClampNeg := by rw [ej, nI_clamp (by omega)]
      rw [eb]
      refine g_if_ge (tgt := 104) dX7_barred_94 (by decide) (fun b2 => ?_) (fun b2 => ?_)
      · have nx := nx (fun q => absurd q.2 (Int32.not_lt.mpr b2)) (some (.int (nI j)))
        exact nx
      · rw [way_8 hb (by omega) ⟨b1, Int32.not_le.mp b2⟩ hno, ej] at hP
        refine g_sipush (v := nI 800) dX7_barred_97 (by decide) ?_
        refine g_iload dX7_barred_100 rfl ?_
        refine g_iadd dX7_barred_102 ?_
        exact g_iret rfl (nr_int _) dX7_barred_103 (by decide) hP
end REF2

