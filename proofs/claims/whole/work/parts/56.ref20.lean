/-! the reference carries an order out -/
section REF20
variable {E : gE} {M : gM} {P : gP} {sh : Sh} {sz : Nat} {V V' V1 V2 : Vl} {cu su pc : Nat} {L : List (Option Value)} {rest : List Value} {m n k : Nat} {f : Fl} {th r : Int32} {S : St} {tx : Nat → Int32}
noncomputable def exD (f : Fl) (q : Int32 × Int32 × Int32 × Int32) : Dq := if q.1 = nI 100 then do_drill f q.2.1 else if q.1 = nI 115 then do_start f q.2.1 else if q.1 = nI 114 then do_roll f q.2.1 else if q.1 = nI 116 then do_set f (nI 0) q.2.1 else if q.1 = nI 106 then do_join f q.2.1 q.2.2.1 q.2.2.2 else do_pass f q.2.1
def exA (q : Int32 × Int32 × Int32 × Int32) (x : Int32) (D : Dq) (f : Fl) (g : Fl) (z : Int32 × Int32) : Prop := (x = nI 0 → D.1 = 0 ∧ D.2.2.1 = g ∧ D.2.2.2 = none) ∧ (x < 0 → 0 < D.1 ∧ D.1 < 4 ∧ D.2.2.1 = f ∧ D.2.2.2 = none) ∧ (0 < x → 0 < D.1 ∧ D.1 < 4 ∧ D.2.2.1 = f ∧ D.2.2.2 = some z)
theorem exA_ok {q : Int32 × Int32 × Int32 × Int32} {D : Dq} {f g : Fl} {z : Int32 × Int32} (h : D.1 = 0 ∧ D.2.2.1 = g ∧ D.2.2.2 = none) : exA q (nI 0) D f g z := ⟨fun _ => h, fun q => absurd q (by decide), fun q => absurd q (by decide)⟩
theorem exA_no {q : Int32 × Int32 × Int32 × Int32} {x : Int32} {D : Dq} {f g : Fl} {z : Int32 × Int32} (hx : x < 0) (h : 0 < D.1 ∧ D.1 < 4 ∧ D.2.2.1 = f ∧ D.2.2.2 = none) : exA q x D f g z := ⟨fun q => by rw [q] at hx; exact absurd hx (by decide), fun _ => h, fun q => (Int32.lt_irrefl (Int32.lt_trans hx q)).elim⟩
theorem exA_ref {q : Int32 × Int32 × Int32 × Int32} {y : Int32 × Int32} {D : Dq} {f g : Fl} (hz : codeOk y) (hn : y ≠ (nI 0, nI 0)) (h : 0 < D.1 ∧ D.1 < 4 ∧ D.2.2.1 = f ∧ D.2.2.2 = some y) : exA q (enc y) D f g y := by
  have hp := (enc_pos hz hn).1
  exact ⟨fun q => by rw [q] at hp; exact absurd hp (by decide), fun q => (Int32.lt_irrefl (Int32.lt_trans hp q)).elim, fun _ => h⟩
theorem exD_is {q : Int32 × Int32 × Int32 × Int32} (hI : InvB f) (hL : isL q.1) : exA q (exO f q) (exD f q) f (exF f q) (exZ f q) := by
  obtain ⟨l, a, b, c⟩ := q
  have h4 := hI.1.2
  have hL : isL l := hL
  unfold exO exF exZ exD
  dsimp only
  rcases hL with rfl | rfl | rfl | rfl | rfl | rfl
  · rw [if_pos rfl, if_pos rfl, if_pos rfl]
    unfold do_drill
    by_cases z : isM a
    · rw [if_pos z, if_pos z]
      exact exA_ok ⟨rfl, rfl, rfl⟩
    · rw [if_neg z, if_neg z]
      exact exA_no (by decide) ⟨Nat.le_of_ble_eq_true rfl, Nat.le_of_ble_eq_true rfl, rfl, rfl⟩
  · rw [if_neg (by decide), if_pos rfl, if_neg (by decide), if_pos rfl, if_neg (by decide), if_pos rfl, if_pos rfl]
    unfold do_start
    by_cases z : isC f a
    · obtain ⟨d, hd, rfl⟩ := isC_of hI z
      rw [obs_t hI hd, if_pos z, nI_clamp (by omega)]
      by_cases y : startO f d = (nI 0, nI 0)
      · rw [if_pos y, y]
        exact exA_ok ⟨rfl, rfl, rfl⟩
      · rw [if_neg y]
        exact exA_ref (start_code f (by omega)) y ⟨Nat.le_of_ble_eq_true rfl, Nat.le_of_ble_eq_true rfl, rfl, rfl⟩
    · rw [obs_f z, if_neg z]
      exact exA_no (by decide) ⟨Nat.le_of_ble_eq_true rfl, Nat.le_of_ble_eq_true rfl, rfl, rfl⟩
  · rw [if_neg (by decide), if_neg (by decide), if_pos rfl, if_neg (by decide), if_neg (by decide), if_pos rfl, if_neg (by decide), if_neg (by decide), if_pos rfl, if_neg (by decide), if_pos rfl]
    unfold do_roll
    by_cases z : isC f a
    · obtain ⟨d, hd, rfl⟩ := isC_of hI z
      rw [obs_t hI hd, if_pos z, nI_clamp (by omega)]
      by_cases y : rollO f d = (nI 0, nI 0)
      · rw [if_pos y, y]
        exact exA_ok ⟨rfl, rfl, rfl⟩
      · rw [if_neg y]
        exact exA_ref (roll_code f (by omega)) y ⟨Nat.le_of_ble_eq_true rfl, Nat.le_of_ble_eq_true rfl, rfl, rfl⟩
    · rw [obs_f z, if_neg z]
      exact exA_no (by decide) ⟨Nat.le_of_ble_eq_true rfl, Nat.le_of_ble_eq_true rfl, rfl, rfl⟩
  · show exA _ (if isSV 0 a then nI 0 else -3) (do_set f (nI 0) a) f (upd f 5 a) _
    unfold do_set
    by_cases z : isSV 0 a
    · rw [if_pos z, if_pos (show isSV (nI 0) a from z)]
      exact exA_ok ⟨rfl, rfl, rfl⟩
    · rw [if_neg z, if_neg (show ¬ isSV (nI 0) a from z)]
      exact exA_no (by decide) ⟨Nat.le_of_ble_eq_true rfl, Nat.le_of_ble_eq_true rfl, rfl, rfl⟩
  · rw [if_neg (by decide), if_neg (by decide), if_neg (by decide), if_neg (by decide), if_pos rfl, if_neg (by decide), if_neg (by decide), if_neg (by decide), if_neg (by decide), if_pos rfl, if_neg (by decide), if_neg (by decide), if_neg (by decide), if_neg (by decide), if_pos rfl, if_neg (by decide), if_neg (by decide)]
    unfold do_join
    by_cases z : isC f a ∧ isPl b c
    · obtain ⟨d, hd, rfl⟩ := isC_of hI z.1
      obtain ⟨i, hi, rfl⟩ := in_nI z.2.1.1 z.2.1.2 (by decide)
      obtain ⟨k, hk, rfl⟩ := in_nI z.2.2.1 z.2.2.2 (by decide)
      rw [joinA_t hI hd hi hk, if_pos z, nI_clamp (by omega), nI_clamp (by omega), nI_clamp (by omega)]
      by_cases y : f (oR (i * 5 + k)) = 0
      · rw [if_pos y, if_pos y]
        exact exA_no (by decide) ⟨Nat.le_of_ble_eq_true rfl, Nat.le_of_ble_eq_true rfl, rfl, rfl⟩
      · rw [if_neg y, if_neg y]
        by_cases x : joinO f d = (nI 0, nI 0)
        · rw [if_pos x, x]
          exact exA_ok ⟨rfl, rfl, rfl⟩
        · rw [if_neg x]
          exact exA_ref (join_code f (by omega)) x ⟨Nat.le_of_ble_eq_true rfl, Nat.le_of_ble_eq_true rfl, rfl, rfl⟩
    · rw [joinA_f z, if_neg z]
      exact exA_no (by decide) ⟨Nat.le_of_ble_eq_true rfl, Nat.le_of_ble_eq_true rfl, rfl, rfl⟩
  · show exA _ (if isDay a then nI 0 else -3) (do_pass f a) f (passF f a.toNatClampNeg) _
    unfold do_pass
    by_cases z : isDay a
    · rw [if_pos z, if_pos z]
      exact exA_ok ⟨rfl, rfl, rfl⟩
    · rw [if_neg z, if_neg z]
      exact exA_no (by decide) ⟨Nat.le_of_ble_eq_true rfl, Nat.le_of_ble_eq_true rfl, rfl, rfl⟩
theorem k_does {q : Int32 × Int32 × Int32 × Int32} (h : MB sh V m f 0 r S) (hI : InvB f) (hq : Oq V m k q) (hL : isL q.1) (hk : k < 60)
    (hP : ∀ V', (∀ a, a ≠ m → a ≠ m + 1 → V' a = V a) → (∀ j, j ≠ 7 → j ≠ 8 → j ≠ 9 → j ≠ 10 → V' m j = V m j) → MB sh V' m (exD f q).2.2.1 (nI (exD f q).1) (dqR r (exD f q).2.2.2) (dqS S (exD f q).2.2.2) → P (.inl none) sh sz V') : MC E YX7_does [.ref m, .int (nI k)] sh sz V P := by
  have h0 := h.1.1
  have s7 := h.2.1.1.2.2.2.2.2
  have v16 := h.2.1.2.1.2.2.2.2.2.2.2.2.2.2.2
  obtain ⟨l, a, b, c⟩ := q
  obtain ⟨q1, q2, q3, q4⟩ := hq
  have q1 : V (m + 7) (4 * k) = .int l := q1
  have q2 : V (m + 7) (4 * k + 1) = .int a := q2
  have q3 : V (m + 7) (4 * k + 2) = .int b := q3
  have q4 : V (m + 7) (4 * k + 3) = .int c := q4
  have hL : isL l := hL
  unfold exD at hP
  dsimp only at hP
  refine MC.of RX7 "does" rfl (by decide +kernel) rfl 2 [_, _, none, none] rfl (Nat.le_of_ble_eq_true rfl) ?_
  show G E MX7_does _ _ _ _ _ _ _ _ _
  refine g_aload_n dX7_does_0 rfl ?_
  refine g_get 9 rfl (by decide) inX7 16 (by decide) fl_X7_33 dX7_does_1 h0 v16 ?_
  refine g_iconst (v := nI 4) dX7_does_4 (by decide) ?_
  refine g_iload_n dX7_does_5 rfl ?_
  refine g_imul dX7_does_6 ?_
  refine g_iconst (v := nI 1) dX7_does_7 (by decide) ?_
  refine g_iadd dX7_does_8 ?_
  rw [pk_mul, nI_add]
  refine g_iaload dX7_does_9 s7 (vp_in_nI (by omega) (by decide)) (at_nI (by omega) q2) ?_
  refine g_istore_n dX7_does_10 (by decide) rfl ?_
  show G _ _ _ _ _ _ _ _ _ [_, _, _, _] _
  refine g_aload_n dX7_does_11 rfl ?_
  refine g_get 9 rfl (by decide) inX7 16 (by decide) fl_X7_33 dX7_does_12 h0 v16 ?_
  refine g_iconst (v := nI 4) dX7_does_15 (by decide) ?_
  refine g_iload_n dX7_does_16 rfl ?_
  refine g_imul dX7_does_17 ?_
  rw [pk_mul]
  refine g_iaload dX7_does_18 s7 (vp_in_nI (by omega) (by decide)) (at_nI (by omega) q1) ?_
  rcases hL with rfl | rfl | rfl | rfl | rfl | rfl
  · rw [if_pos rfl] at hP
    refine g_lookup (off := 49) (tgt := 68) dX7_does_19 (by decide) (by decide +kernel) (by decide) ?_
    refine g_aload_n dX7_does_68 rfl ?_
    refine g_iload_n dX7_does_69 rfl ?_
    refine g_callVw (Y := YX7_doDrill) sv_X7_105 rfl yn_X7_doDrill 9 (by decide) rfl rfl dX7_does_70 (k_doDrill (P := pW (fun v V5 => P (.inl none) sh sz V5 ∧ ∃ x, v = .int x) sh sz) h (fun V' x y z => ⟨_, rfl, rfl, rfl, hP V' x y z, _, rfl⟩)) h0 rfl rfl rfl (Nat.le_of_ble_eq_true rfl) ⟨rfl, rfl⟩ (fun v V5 q => ?_)
    obtain ⟨q, x, rfl⟩ := q
    refine g_istore_n dX7_does_73 (by decide) rfl ?_
    show G _ _ _ _ _ _ _ _ _ [_, _, _, _] _
    refine g_jump (tgt := 140) dX7_does_74 (by decide) ?_
    exact g_vret rfl dX7_does_140 (by decide) q
  · rw [if_neg (by decide), if_pos rfl] at hP
    refine g_lookup (off := 58) (tgt := 77) dX7_does_19 (by decide) (by decide +kernel) (by decide) ?_
    refine g_aload_n dX7_does_77 rfl ?_
    refine g_iload_n dX7_does_78 rfl ?_
    refine g_callVw (Y := YX7_doStart) sv_X7_165 rfl yn_X7_doStart 9 (by decide) rfl rfl dX7_does_79 (k_doStart (P := pW (fun v V5 => P (.inl none) sh sz V5 ∧ ∃ x, v = .int x) sh sz) h hI (fun V' x y z => ⟨_, rfl, rfl, rfl, hP V' x y z, _, rfl⟩)) h0 rfl rfl rfl (Nat.le_of_ble_eq_true rfl) ⟨rfl, rfl⟩ (fun v V5 q => ?_)
    obtain ⟨q, x, rfl⟩ := q
    refine g_istore_n dX7_does_82 (by decide) rfl ?_
    show G _ _ _ _ _ _ _ _ _ [_, _, _, _] _
    refine g_jump (tgt := 140) dX7_does_83 (by decide) ?_
    exact g_vret rfl dX7_does_140 (by decide) q
  · rw [if_neg (by decide), if_neg (by decide), if_pos rfl] at hP
    refine g_lookup (off := 67) (tgt := 86) dX7_does_19 (by decide) (by decide +kernel) (by decide) ?_
    refine g_aload_n dX7_does_86 rfl ?_
    refine g_iload_n dX7_does_87 rfl ?_
    refine g_callVw (Y := YX7_doRoll) sv_X7_174 rfl yn_X7_doRoll 9 (by decide) rfl rfl dX7_does_88 (k_doRoll (P := pW (fun v V5 => P (.inl none) sh sz V5 ∧ ∃ x, v = .int x) sh sz) h hI (fun V' x y z => ⟨_, rfl, rfl, rfl, hP V' x y z, _, rfl⟩)) h0 rfl rfl rfl (Nat.le_of_ble_eq_true rfl) ⟨rfl, rfl⟩ (fun v V5 q => ?_)
    obtain ⟨q, x, rfl⟩ := q
    refine g_istore_n dX7_does_91 (by decide) rfl ?_
    show G _ _ _ _ _ _ _ _ _ [_, _, _, _] _
    refine g_jump (tgt := 140) dX7_does_92 (by decide) ?_
    exact g_vret rfl dX7_does_140 (by decide) q
  · rw [if_neg (by decide), if_neg (by decide), if_neg (by decide), if_pos rfl] at hP
    refine g_lookup (off := 76) (tgt := 95) dX7_does_19 (by decide) (by decide +kernel) (by decide) ?_
    refine g_aload_n dX7_does_95 rfl ?_
    refine g_iconst (v := nI 0) dX7_does_96 (by decide) ?_
    refine g_iload_n dX7_does_97 rfl ?_
    refine g_callVw (Y := YX7_doSet) sv_X7_95 rfl yn_X7_doSet 9 (by decide) rfl rfl dX7_does_98 (k_doSet (P := pW (fun v V5 => P (.inl none) sh sz V5 ∧ ∃ x, v = .int x) sh sz) h (fun V' x y z => ⟨_, rfl, rfl, rfl, hP V' x y z, _, rfl⟩)) h0 rfl rfl rfl (Nat.le_of_ble_eq_true rfl) ⟨rfl, rfl⟩ (fun v V5 q => ?_)
    obtain ⟨q, x, rfl⟩ := q
    refine g_istore_n dX7_does_101 (by decide) rfl ?_
    show G _ _ _ _ _ _ _ _ _ [_, _, _, _] _
    refine g_jump (tgt := 140) dX7_does_102 (by decide) ?_
    exact g_vret rfl dX7_does_140 (by decide) q
  · rw [if_neg (by decide), if_neg (by decide), if_neg (by decide), if_neg (by decide), if_pos rfl] at hP
    refine g_lookup (off := 86) (tgt := 105) dX7_does_19 (by decide) (by decide +kernel) (by decide) ?_
    refine g_aload_n dX7_does_105 rfl ?_
    refine g_iload_n dX7_does_106 rfl ?_
    refine g_aload_n dX7_does_107 rfl ?_
    refine g_get 9 rfl (by decide) inX7 16 (by decide) fl_X7_33 dX7_does_108 h0 v16 ?_
    refine g_iconst (v := nI 4) dX7_does_111 (by decide) ?_
    refine g_iload_n dX7_does_112 rfl ?_
    refine g_imul dX7_does_113 ?_
    refine g_iconst (v := nI 2) dX7_does_114 (by decide) ?_
    refine g_iadd dX7_does_115 ?_
    rw [pk_mul, nI_add]
    refine g_iaload dX7_does_116 s7 (vp_in_nI (by omega) (by decide)) (at_nI (by omega) q3) ?_
    refine g_aload_n dX7_does_117 rfl ?_
    refine g_get 9 rfl (by decide) inX7 16 (by decide) fl_X7_33 dX7_does_118 h0 v16 ?_
    refine g_iconst (v := nI 4) dX7_does_121 (by decide) ?_
    refine g_iload_n dX7_does_122 rfl ?_
    refine g_imul dX7_does_123 ?_
    refine g_iconst (v := nI 3) dX7_does_124 (by decide) ?_
    refine g_iadd dX7_does_125 ?_
    rw [pk_mul, nI_add]
    refine g_iaload dX7_does_126 s7 (vp_in_nI (by omega) (by decide)) (at_nI (by omega) q4) ?_
    refine g_callVw (Y := YX7_doJoin) sv_X7_137 rfl yn_X7_doJoin 9 (by decide) rfl rfl dX7_does_127 (k_doJoin (P := pW (fun v V5 => P (.inl none) sh sz V5 ∧ ∃ x, v = .int x) sh sz) h hI (fun V' x y z => ⟨_, rfl, rfl, rfl, hP V' x y z, _, rfl⟩)) h0 rfl rfl rfl (Nat.le_of_ble_eq_true rfl) ⟨rfl, rfl⟩ (fun v V5 q => ?_)
    obtain ⟨q, x, rfl⟩ := q
    refine g_istore_n dX7_does_130 (by decide) rfl ?_
    show G _ _ _ _ _ _ _ _ _ [_, _, _, _] _
    refine g_jump (tgt := 140) dX7_does_131 (by decide) ?_
    exact g_vret rfl dX7_does_140 (by decide) q
  · rw [if_neg (by decide), if_neg (by decide), if_neg (by decide), if_neg (by decide), if_neg (by decide)] at hP
    refine g_lookup (off := 115) (tgt := 134) dX7_does_19 (by decide) (by decide +kernel) (by decide) ?_
    refine g_aload_n dX7_does_134 rfl ?_
    refine g_iload_n dX7_does_135 rfl ?_
    refine g_callVw (Y := YX7_doPass) sv_X7_208 rfl yn_X7_doPass 9 (by decide) rfl rfl dX7_does_136 (k_doPass (P := pW (fun v V5 => P (.inl none) sh sz V5 ∧ ∃ x, v = .int x) sh sz) h hI (fun V' x y z => ⟨_, rfl, rfl, rfl, hP V' x y z, _, rfl⟩)) h0 rfl rfl rfl (Nat.le_of_ble_eq_true rfl) ⟨rfl, rfl⟩ (fun v V5 q => ?_)
    obtain ⟨q, x, rfl⟩ := q
    refine g_istore_n dX7_does_139 (by decide) rfl ?_
    show G _ _ _ _ _ _ _ _ _ [_, _, _, _] _
    exact g_vret rfl dX7_does_140 (by decide) q
end REF20

