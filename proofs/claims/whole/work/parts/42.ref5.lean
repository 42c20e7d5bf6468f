/-! the reference: tonnes that wait, sums over convoys, a day -/
section REF5
variable {E : gE} {M : gM} {P : gP} {sh : Sh} {sz : Nat} {V V' : Vl} {cu su pc : Nat} {L : List (Option Value)} {rest : List Value} {m : Nat} {f : Fl}
/-- what a truck of a convoy still waits to bring -/
def twF (f : Fl) (c k : Nat) : Int32 := if k < ncv f c then (if nI 12 ≤ mt (f (oC c 2)) (f (oC c 0)) k then nI 0 else (tkF f c k).2.1) else nI 0
theorem twF_4 {c : Nat} (h : ncv f c ≤ 4) : sI (twF f c) 4 = sI (twF f c) (ncv f c) := by
  have := sI_more (p := twF f c) (n := ncv f c) (d := 4 - ncv f c) (fun k hk => by unfold twF; rw [if_neg (by omega)])
  rw [show ncv f c + (4 - ncv f c) = 4 by omega] at this
  exact this
theorem k_waitingTonnes (h : SA sh V m f) (hI : InvB f) (hP : P (.inl (some (.int (waitT f)))) sh sz V) : MC E YX7_waitingTonnes [.ref m] sh sz V P := by
  have h44 := hI.1.2
  refine MC.of RX7 "waitingTonnes" rfl (by decide +kernel) rfl 4 [_, none, none, none, none] rfl (Nat.le_of_ble_eq_true rfl) ?_
  show G E MX7_waitingTonnes _ _ _ _ _ _ _ _ _
  refine g_iconst (v := nI 0) dX7_waitingTonnes_0 (by decide) ?_
  refine g_istore_n dX7_waitingTonnes_1 (by decide) rfl ?_
  show G _ _ _ _ _ _ _ _ _ [_, _, _, _, _] _
  refine g_iconst (v := nI 0) dX7_waitingTonnes_2 (by decide) ?_
  refine g_istore_n dX7_waitingTonnes_3 (by decide) rfl ?_
  show G _ _ _ _ _ _ _ _ _ [_, _, _, _, _] _
  suffices K : ∀ (d i : Nat), i + d = 10 → G E MX7_waitingTonnes P sh sz V 0 0 4 [some (.ref m), some (.int (sI (fun k => f (oR k)) i)), some (.int (nI i)), none, none] [] from K 10 0 rfl
  intro d
  induction d with
  | succ d ih =>
    intro i hi
    have ih := ih (i + 1) (by omega)
    rw [sI_succ] at ih
    refine g_iload_n dX7_waitingTonnes_4 rfl ?_
    refine g_bipush (v := nI 10) dX7_waitingTonnes_5 (by decide) ?_
    refine g_icmp_ge (tgt := 30) dX7_waitingTonnes_7 (by decide) (fun hq => absurd hq (nI_ge (by omega) (by omega))) (fun _ => ?_)
    refine g_iload_n dX7_waitingTonnes_10 rfl ?_
    refine g_aload_n dX7_waitingTonnes_11 rfl ?_
    refine g_get 9 rfl (by decide) inX7 0 (by decide) fl_X7_9 dX7_waitingTonnes_12 h.1 h.2.2.1 ?_
    refine g_bipush (v := nI 80) dX7_waitingTonnes_15 (by decide) ?_
    refine g_iconst (v := nI 2) dX7_waitingTonnes_17 (by decide) ?_
    refine g_iload_n dX7_waitingTonnes_18 rfl ?_
    refine g_imul dX7_waitingTonnes_19 ?_
    refine g_iadd dX7_waitingTonnes_20 ?_
    rw [pk_mul, nI_add]
    refine g_iaload dX7_waitingTonnes_21 h.2.1 (vp_in_nI (by omega) (by decide)) (h.rd (k := 80 + 2 * i) (by omega)) ?_
    refine g_iadd dX7_waitingTonnes_22 ?_
    refine g_istore_n dX7_waitingTonnes_23 (by decide) rfl ?_
    show G _ _ _ _ _ _ _ _ _ [_, _, _, _, _] _
    refine g_iinc dX7_waitingTonnes_24 rfl (by first | exact nI_inc _ | rfl) (by decide) rfl ?_
    show G _ _ _ _ _ _ _ _ _ [_, _, _, _, _] _
    refine g_jump (tgt := 4) dX7_waitingTonnes_27 (by decide) ?_
    exact ih
  | zero =>
    intro i hi
    have hi : i = 10 := by omega
    subst hi
    refine g_iload_n dX7_waitingTonnes_4 rfl ?_
    refine g_bipush (v := nI 10) dX7_waitingTonnes_5 (by decide) ?_
    refine g_icmp_ge (tgt := 30) dX7_waitingTonnes_7 (by decide) (fun _ => ?_) (fun hq => absurd (Int32.le_refl _) hq)
    refine g_iconst (v := nI 0) dX7_waitingTonnes_30 (by decide) ?_
    refine g_istore_n dX7_waitingTonnes_31 (by decide) rfl ?_
    show G _ _ _ _ _ _ _ _ _ [_, _, _, _, _] _
    have eW : sI (fun k => f (oR k)) 10 + sI (fun c => sI (twF f c) 4) (cnt f) = waitT f := rfl
    generalize sI (fun k => f (oR k)) 10 = R at eW ⊢
    suffices K : ∀ (d c : Nat), c + d = cnt f → ∀ z w, G E MX7_waitingTonnes P sh sz V 0 0 32 [some (.ref m), some (.int (R + sI (fun c => sI (twF f c) 4) c)), some (.int (nI c)), z, w] [] by
      have := K (cnt f) 0 (Nat.zero_add _) none none
      rw [show sI (fun c => sI (twF f c) 4) 0 = 0 from rfl, Int32.add_zero] at this
      exact this
    intro d
    induction d with
    | zero =>
      intro c hc z w
      have hc : c = cnt f := by omega
      rw [hc, eW]
      refine g_iload_n dX7_waitingTonnes_32 rfl ?_
      refine g_aload_n dX7_waitingTonnes_33 rfl ?_
      refine g_get 9 rfl (by decide) inX7 0 (by decide) fl_X7_9 dX7_waitingTonnes_34 h.1 h.2.2.1 ?_
      refine g_iconst (v := nI 1) dX7_waitingTonnes_37 (by decide) ?_
      refine g_iaload dX7_waitingTonnes_38 h.2.1 (vp_in_nI (by decide) (by decide)) (h.many hI) ?_
      refine g_icmp_ge (tgt := 117) dX7_waitingTonnes_39 (by decide) (fun _ => ?_) (fun hq => absurd (Int32.le_refl _) hq)
      refine g_iload_n dX7_waitingTonnes_117 rfl ?_
      exact g_iret rfl (nr_int _) dX7_waitingTonnes_118 (by decide) hP
    | succ d ih =>
      intro c hcd z w
      have hc : c < cnt f := by omega
      obtain ⟨i0, i1, i2, i3, i4⟩ := hI.cv hc
      have ih := ih (c + 1) (by omega)
      rw [sI_succ, ← Int32.add_assoc, twF_4 i2] at ih
      refine g_iload_n dX7_waitingTonnes_32 rfl ?_
      refine g_aload_n dX7_waitingTonnes_33 rfl ?_
      refine g_get 9 rfl (by decide) inX7 0 (by decide) fl_X7_9 dX7_waitingTonnes_34 h.1 h.2.2.1 ?_
      refine g_iconst (v := nI 1) dX7_waitingTonnes_37 (by decide) ?_
      refine g_iaload dX7_waitingTonnes_38 h.2.1 (vp_in_nI (by decide) (by decide)) (h.many hI) ?_
      refine g_icmp_ge (tgt := 117) dX7_waitingTonnes_39 (by decide) (fun hq => absurd hq (nI_ge (by omega) (by omega))) (fun _ => ?_)
      refine g_iconst (v := nI 0) dX7_waitingTonnes_42 (by decide) ?_
      refine g_istore_n dX7_waitingTonnes_43 (by decide) rfl ?_
      show G _ _ _ _ _ _ _ _ _ [_, _, _, _, _] _
      generalize R + sI (fun c => sI (twF f c) 4) c = A at ih ⊢
      suffices K : ∀ (e k : Nat), k + e = ncv f c → ∀ w, G E MX7_waitingTonnes P sh sz V 0 0 44 [some (.ref m), some (.int (A + sI (twF f c) k)), some (.int (nI c)), some (.int (nI k)), w] [] by
        have := K (ncv f c) 0 (Nat.zero_add _) w
        rw [show sI (twF f c) 0 = 0 from rfl, Int32.add_zero] at this
        exact this
      intro e
      induction e with
      | zero =>
        intro k hk w
        have hk : k = ncv f c := by omega
        rw [hk]
        have ih := ih (some (.int (nI (ncv f c)))) w
        refine g_iload_n dX7_waitingTonnes_44 rfl ?_
        refine g_aload_n dX7_waitingTonnes_45 rfl ?_
        refine g_iload_n dX7_waitingTonnes_46 rfl ?_
        refine g_iconst (v := nI 1) dX7_waitingTonnes_47 (by decide) ?_
        refine g_callVp (Y := YX7_convoy1) sv_X7_81 rfl yn_X7_convoy1 9 (by decide) rfl rfl dX7_waitingTonnes_48 (k_convoy1 h (c := c) (k := 1) (by omega) (by decide) pR_ok) h.1 rfl rfl rfl (Nat.le_of_ble_eq_true rfl) ⟨rfl, rfl⟩ ?_
        rw [i1]
        refine g_icmp_ge (tgt := 111) dX7_waitingTonnes_51 (by decide) (fun _ => ?_) (fun hq => absurd (Int32.le_refl _) hq)
        refine g_iinc dX7_waitingTonnes_111 rfl (by first | exact nI_inc _ | rfl) (by decide) rfl ?_
        show G _ _ _ _ _ _ _ _ _ [_, _, _, _, _] _
        refine g_jump (tgt := 32) dX7_waitingTonnes_114 (by decide) ?_
        exact ih
      | succ e ihk =>
        intro k hk w
        have ihk := ihk (k + 1) (by omega)
        rw [sI_succ, ← Int32.add_assoc] at ihk
        have et : twF f c k = if nI 12 ≤ mt (f (oC c 2)) (f (oC c 0)) k then nI 0 else f (oC c (4 + 3 * k + 1)) := by
          unfold twF
          rw [if_pos (by omega), show 4 + 3 * k + 1 = 5 + 3 * k by omega]
          rfl
        have no : ¬ nI 12 ≤ mt (f (oC c 2)) (f (oC c 0)) k → G E MX7_waitingTonnes P sh sz V 0 0 83 [some (.ref m), some (.int (A + sI (twF f c) k)), some (.int (nI c)), some (.int (nI k)), w] [] := by
          intro q
          have ihk := ihk (some (.int (nI 0)))
          rw [et, if_neg q] at ihk
          refine g_iconst (v := nI 0) dX7_waitingTonnes_83 (by decide) ?_
          refine g_istore dX7_waitingTonnes_84 (by decide) rfl ?_
          show G _ _ _ _ _ _ _ _ _ [_, _, _, _, _] _
          refine g_iload_n dX7_waitingTonnes_86 rfl ?_
          refine g_iload dX7_waitingTonnes_87 rfl ?_
          refine g_if_eq (tgt := 96) dX7_waitingTonnes_89 (by decide) (fun _ => ?_) (fun hq => absurd (rfl) hq)
          refine g_aload_n dX7_waitingTonnes_96 rfl ?_
          refine g_iload_n dX7_waitingTonnes_97 rfl ?_
          refine g_iload_n dX7_waitingTonnes_98 rfl ?_
          refine g_iconst (v := nI 1) dX7_waitingTonnes_99 (by decide) ?_
          refine g_callVp (Y := YX7_truck1) sv_X7_140 rfl yn_X7_truck1 9 (by decide) rfl rfl dX7_waitingTonnes_100 (k_truck1 h (c := c) (p := k) (k := 1) (by omega) (by omega) (by decide) pR_ok) h.1 rfl rfl rfl (Nat.le_of_ble_eq_true rfl) ⟨rfl, rfl⟩ ?_
          refine g_iadd dX7_waitingTonnes_103 ?_
          refine g_istore_n dX7_waitingTonnes_104 (by decide) rfl ?_
          show G _ _ _ _ _ _ _ _ _ [_, _, _, _, _] _
          refine g_iinc dX7_waitingTonnes_105 rfl (by first | exact nI_inc _ | rfl) (by decide) rfl ?_
          show G _ _ _ _ _ _ _ _ _ [_, _, _, _, _] _
          refine g_jump (tgt := 44) dX7_waitingTonnes_108 (by decide) ?_
          exact ihk
        refine g_iload_n dX7_waitingTonnes_44 rfl ?_
        refine g_aload_n dX7_waitingTonnes_45 rfl ?_
        refine g_iload_n dX7_waitingTonnes_46 rfl ?_
        refine g_iconst (v := nI 1) dX7_waitingTonnes_47 (by decide) ?_
        refine g_callVp (Y := YX7_convoy1) sv_X7_81 rfl yn_X7_convoy1 9 (by decide) rfl rfl dX7_waitingTonnes_48 (k_convoy1 h (c := c) (k := 1) (by omega) (by decide) pR_ok) h.1 rfl rfl rfl (Nat.le_of_ble_eq_true rfl) ⟨rfl, rfl⟩ ?_
        rw [i1]
        refine g_icmp_ge (tgt := 111) dX7_waitingTonnes_51 (by decide) (fun hq => absurd hq (nI_ge (by omega) (by omega))) (fun _ => ?_)
        refine g_aload_n dX7_waitingTonnes_54 rfl ?_
        refine g_iload_n dX7_waitingTonnes_55 rfl ?_
        refine g_callVp (Y := YX7_isStarted) sv_X7_144 rfl yn_X7_isStarted 9 (by decide) rfl rfl dX7_waitingTonnes_56 (k_isStarted h hI hc pR_ok) h.1 rfl rfl rfl (Nat.le_of_ble_eq_true rfl) ⟨rfl, rfl⟩ ?_
        refine g_if_eq (tgt := 83) dX7_waitingTonnes_59 (by decide) (fun b1 => ?_) (fun b1 => ?_)
        · exact no (by rw [mt_ns (bi_eq b1)]; decide)
        have b1 := bi_ne b1
        refine g_aload_n dX7_waitingTonnes_62 rfl ?_
        refine g_iload_n dX7_waitingTonnes_63 rfl ?_
        refine g_iload_n dX7_waitingTonnes_64 rfl ?_
        refine g_aload_n dX7_waitingTonnes_65 rfl ?_
        refine g_iload_n dX7_waitingTonnes_66 rfl ?_
        refine g_iconst (v := nI 2) dX7_waitingTonnes_67 (by decide) ?_
        refine g_callVp (Y := YX7_convoy1) sv_X7_81 rfl yn_X7_convoy1 9 (by decide) rfl rfl dX7_waitingTonnes_68 (k_convoy1 h (c := c) (k := 2) (by omega) (by decide) pR_ok) h.1 rfl rfl rfl (Nat.le_of_ble_eq_true rfl) ⟨rfl, rfl⟩ ?_
        refine g_callVp (Y := YX7_mileBy) sv_X7_147 rfl yn_X7_mileBy 9 (by decide) rfl rfl dX7_waitingTonnes_71 (k_mileBy h (c := c) (p := k) (by omega) pR_ok) h.1 rfl rfl rfl (Nat.le_of_ble_eq_true rfl) ⟨rfl, rfl⟩ ?_
        refine g_bipush (v := nI 12) dX7_waitingTonnes_74 (by decide) ?_
        refine g_icmp_lt (tgt := 83) dX7_waitingTonnes_76 (by decide) (fun b2 => ?_) (fun b2 => ?_)
        · exact no (by rw [mt_st b1]; exact Int32.not_le.mpr b2)
        have ihk := ihk (some (.int (nI 1)))
        rw [et, mt_st b1, if_pos (Int32.not_lt.mp b2)] at ihk
        refine g_iconst (v := nI 1) dX7_waitingTonnes_79 (by decide) ?_
        refine g_jump (tgt := 84) dX7_waitingTonnes_80 (by decide) ?_
        refine g_istore dX7_waitingTonnes_84 (by decide) rfl ?_
        show G _ _ _ _ _ _ _ _ _ [_, _, _, _, _] _
        refine g_iload_n dX7_waitingTonnes_86 rfl ?_
        refine g_iload dX7_waitingTonnes_87 rfl ?_
        refine g_if_eq (tgt := 96) dX7_waitingTonnes_89 (by decide) (fun hq => absurd hq ((by decide))) (fun _ => ?_)
        refine g_iconst (v := nI 0) dX7_waitingTonnes_92 (by decide) ?_
        refine g_jump (tgt := 103) dX7_waitingTonnes_93 (by decide) ?_
        refine g_iadd dX7_waitingTonnes_103 ?_
        refine g_istore_n dX7_waitingTonnes_104 (by decide) rfl ?_
        show G _ _ _ _ _ _ _ _ _ [_, _, _, _, _] _
        refine g_iinc dX7_waitingTonnes_105 rfl (by first | exact nI_inc _ | rfl) (by decide) rfl ?_
        show G _ _ _ _ _ _ _ _ _ [_, _, _, _, _] _
        refine g_jump (tgt := 44) dX7_waitingTonnes_108 (by decide) ?_
        exact ihk
/-- what a convoy counts for -/
def ovW (f : Fl) (w : Int32) (c : Nat) : Int32 := if w = nI 3 then bi (0 ≤ f (oC c 2) ∧ ¬ dnF f c) else if w = nI 4 then bi (dnF f c) else nI (fb_ct (twP f c (if w = nI 6 then nI 1 else nI 0)) (ncv f c))
theorem k_overConvoys {w : Int32} (h : SA sh V m f) (hI : InvB f) (hP : P (.inl (some (.int (sI (ovW f w) (cnt f))))) sh sz V) : MC E YX7_overConvoys [.ref m, .int w] sh sz V P := by
  have h44 := hI.1.2
  refine MC.of RX7 "overConvoys" rfl (by decide +kernel) rfl 2 [_, _, none, none] rfl (Nat.le_of_ble_eq_true rfl) ?_
  show G E MX7_overConvoys _ _ _ _ _ _ _ _ _
  refine g_iconst (v := nI 0) dX7_overConvoys_0 (by decide) ?_
  refine g_istore_n dX7_overConvoys_1 (by decide) rfl ?_
  show G _ _ _ _ _ _ _ _ _ [_, _, _, _] _
  refine g_iconst (v := nI 0) dX7_overConvoys_2 (by decide) ?_
  refine g_istore_n dX7_overConvoys_3 (by decide) rfl ?_
  show G _ _ _ _ _ _ _ _ _ [_, _, _, _] _
  suffices K : ∀ (d c : Nat), c + d = cnt f → G E MX7_overConvoys P sh sz V 0 0 4 [some (.ref m), some (.int w), some (.int (sI (ovW f w) c)), some (.int (nI c))] [] from K (cnt f) 0 (Nat.zero_add _)
  intro d
  induction d with
  | zero =>
    intro c hc
    have hc : c = cnt f := by omega
    rw [hc]
    refine g_iload_n dX7_overConvoys_4 rfl ?_
    refine g_aload_n dX7_overConvoys_5 rfl ?_
    refine g_get 9 rfl (by decide) inX7 0 (by decide) fl_X7_9 dX7_overConvoys_6 h.1 h.2.2.1 ?_
    refine g_iconst (v := nI 1) dX7_overConvoys_9 (by decide) ?_
    refine g_iaload dX7_overConvoys_10 h.2.1 (vp_in_nI (by decide) (by decide)) (h.many hI) ?_
    refine g_icmp_ge (tgt := 89) dX7_overConvoys_11 (by decide) (fun _ => ?_) (fun hq => absurd (Int32.le_refl _) hq)
    refine g_iload_n dX7_overConvoys_89 rfl ?_
    exact g_iret rfl (nr_int _) dX7_overConvoys_90 (by decide) hP
  | succ d ih =>
    intro c hcd
    have hc : c < cnt f := by omega
    have ih := ih (c + 1) (by omega)
    rw [sI_succ] at ih
    have tail : ∀ y, y = ovW f w c → G E MX7_overConvoys P sh sz V 0 0 81 [some (.ref m), some (.int w), some (.int (sI (ovW f w) c)), some (.int (nI c))] [.int y, .int (sI (ovW f w) c)] := by
      intro y hy
      rw [hy]
      refine g_iadd dX7_overConvoys_81 ?_
      refine g_istore_n dX7_overConvoys_82 (by decide) rfl ?_
      show G _ _ _ _ _ _ _ _ _ [_, _, _, _] _
      refine g_iinc dX7_overConvoys_83 rfl (by first | exact nI_inc _ | rfl) (by decide) rfl ?_
      show G _ _ _ _ _ _ _ _ _ [_, _, _, _] _
      refine g_jump (tgt := 4) dX7_overConvoys_86 (by decide) ?_
      exact ih
    have hov : ovW f w c = if w = nI 3 then bi (0 ≤ f (oC c 2) ∧ ¬ dnF f c) else if w = nI 4 then bi (dnF f c) else nI (fb_ct (twP f c (if w = nI 6 then nI 1 else nI 0)) (ncv f c)) := rfl
    rw [hov] at tail
    refine g_iload_n dX7_overConvoys_4 rfl ?_
    refine g_aload_n dX7_overConvoys_5 rfl ?_
    refine g_get 9 rfl (by decide) inX7 0 (by decide) fl_X7_9 dX7_overConvoys_6 h.1 h.2.2.1 ?_
    refine g_iconst (v := nI 1) dX7_overConvoys_9 (by decide) ?_
    refine g_iaload dX7_overConvoys_10 h.2.1 (vp_in_nI (by decide) (by decide)) (h.many hI) ?_
    refine g_icmp_ge (tgt := 89) dX7_overConvoys_11 (by decide) (fun hq => absurd hq (nI_ge (by omega) (by omega))) (fun _ => ?_)
    refine g_iload_n dX7_overConvoys_14 rfl ?_
    refine g_iload_n dX7_overConvoys_15 rfl ?_
    refine g_iconst (v := nI 3) dX7_overConvoys_16 (by decide) ?_
    refine g_icmp_ne (tgt := 44) dX7_overConvoys_17 (by decide) (fun b1 => ?_) (fun b1 => ?_)
    rotate_left
    · rw [if_pos b1] at tail
      have t0 : ¬ (0 ≤ f (oC c 2) ∧ ¬ dnF f c) → G E MX7_overConvoys P sh sz V 0 0 40 [some (.ref m), some (.int w), some (.int (sI (ovW f w) c)), some (.int (nI c))] [.int (sI (ovW f w) c)] := by
        intro q
        have t := tail (nI 0) (bi_f q).symm
        refine g_iconst (v := nI 0) dX7_overConvoys_40 (by decide) ?_
        refine g_jump (tgt := 81) dX7_overConvoys_41 (by decide) ?_
        exact t
      refine g_aload_n dX7_overConvoys_20 rfl ?_
      refine g_iload_n dX7_overConvoys_21 rfl ?_
      refine g_callVp (Y := YX7_isStarted) sv_X7_144 rfl yn_X7_isStarted 9 (by decide) rfl rfl dX7_overConvoys_22 (k_isStarted h hI hc pR_ok) h.1 rfl rfl rfl (Nat.le_of_ble_eq_true rfl) ⟨rfl, rfl⟩ ?_
      refine g_if_eq (tgt := 40) dX7_overConvoys_25 (by decide) (fun b2 => ?_) (fun b2 => ?_)
      · exact t0 (fun q => bi_eq b2 q.1)
      refine g_aload_n dX7_overConvoys_28 rfl ?_
      refine g_iload_n dX7_overConvoys_29 rfl ?_
      refine g_callVp (Y := YX7_isDone) sv_X7_168 rfl yn_X7_isDone 9 (by decide) rfl rfl dX7_overConvoys_30 (k_isDone h hI hc pR_ok) h.1 rfl rfl rfl (Nat.le_of_ble_eq_true rfl) ⟨rfl, rfl⟩ ?_
      refine g_if_ne (tgt := 40) dX7_overConvoys_33 (by decide) (fun b3 => ?_) (fun b3 => ?_)
      · exact t0 (fun q => q.2 (bi_ne b3))
      have t := tail (nI 1) (bi_t ⟨bi_ne b2, bi_eq b3⟩).symm
      refine g_iconst (v := nI 1) dX7_overConvoys_36 (by decide) ?_
      refine g_jump (tgt := 81) dX7_overConvoys_37 (by decide) ?_
      exact t
    rw [if_neg b1] at tail
    refine g_iload_n dX7_overConvoys_44 rfl ?_
    refine g_iconst (v := nI 4) dX7_overConvoys_45 (by decide) ?_
    refine g_icmp_ne (tgt := 65) dX7_overConvoys_46 (by decide) (fun b2 => ?_) (fun b2 => ?_)
    rotate_left
    · rw [if_pos b2] at tail
      refine g_aload_n dX7_overConvoys_49 rfl ?_
      refine g_iload_n dX7_overConvoys_50 rfl ?_
      refine g_callVp (Y := YX7_isDone) sv_X7_168 rfl yn_X7_isDone 9 (by decide) rfl rfl dX7_overConvoys_51 (k_isDone h hI hc pR_ok) h.1 rfl rfl rfl (Nat.le_of_ble_eq_true rfl) ⟨rfl, rfl⟩ ?_
      refine g_if_eq (tgt := 61) dX7_overConvoys_54 (by decide) (fun b3 => ?_) (fun b3 => ?_)
      · have t := tail (nI 0) (bi_f (bi_eq b3)).symm
        refine g_iconst (v := nI 0) dX7_overConvoys_61 (by decide) ?_
        refine g_jump (tgt := 81) dX7_overConvoys_62 (by decide) ?_
        exact t
      · have t := tail (nI 1) (bi_t (bi_ne b3)).symm
        refine g_iconst (v := nI 1) dX7_overConvoys_57 (by decide) ?_
        refine g_jump (tgt := 81) dX7_overConvoys_58 (by decide) ?_
        exact t
    rw [if_neg b2] at tail
    refine g_aload_n dX7_overConvoys_65 rfl ?_
    refine g_iload_n dX7_overConvoys_66 rfl ?_
    refine g_iload_n dX7_overConvoys_67 rfl ?_
    refine g_bipush (v := nI 6) dX7_overConvoys_68 (by decide) ?_
    refine g_icmp_ne (tgt := 77) dX7_overConvoys_70 (by decide) (fun b3 => ?_) (fun b3 => ?_)
    · rw [if_neg b3] at tail
      refine g_iconst (v := nI 0) dX7_overConvoys_77 (by decide) ?_
      refine g_callVp (Y := YX7_trucksOf) sv_X7_177 rfl yn_X7_trucksOf 9 (by decide) rfl rfl dX7_overConvoys_78 (k_trucksOf h hI hc pR_ok) h.1 rfl rfl rfl (Nat.le_of_ble_eq_true rfl) ⟨rfl, rfl⟩ ?_
      exact tail _ rfl
    · rw [if_pos b3] at tail
      refine g_iconst (v := nI 1) dX7_overConvoys_73 (by decide) ?_
      refine g_jump (tgt := 78) dX7_overConvoys_74 (by decide) ?_
      refine g_callVp (Y := YX7_trucksOf) sv_X7_177 rfl yn_X7_trucksOf 9 (by decide) rfl rfl dX7_overConvoys_78 (k_trucksOf h hI hc pR_ok) h.1 rfl rfl rfl (Nat.le_of_ble_eq_true rfl) ⟨rfl, rfl⟩ ?_
      exact tail _ rfl
theorem k_goDay (h : SA sh V m f) (hI : InvB f) (hP : ∀ V', Mw V V' m → SA sh V' m (dayF f) → P (.inl none) sh sz V') : MC E YX7_goDay [.ref m] sh sz V P := by
  refine MC.of RX7 "goDay" rfl (by decide +kernel) rfl 1 [_, none] rfl (Nat.le_of_ble_eq_true rfl) ?_
  show G E MX7_goDay _ _ _ _ _ _ _ _ _
  refine g_iconst (v := nI 0) dX7_goDay_0 (by decide) ?_
  refine g_istore_n dX7_goDay_1 (by decide) rfl ?_
  show G _ _ _ _ _ _ _ _ _ [_, _] _
  suffices K : ∀ (d j : Nat), j + d = 12 → ∀ V1, Mw V V1 m → SA sh V1 m (dayN f j) → G E MX7_goDay P sh sz V1 0 0 2 [some (.ref m), some (.int (nI j))] [] from K 12 0 rfl V Mw.rf h
  intro d
  induction d with
  | zero =>
    intro j hj V1 hw hS
    have hj : j = 12 := by omega
    subst hj
    refine g_iload_n dX7_goDay_2 rfl ?_
    refine g_bipush (v := nI 12) dX7_goDay_3 (by decide) ?_
    refine g_icmp_ge (tgt := 66) dX7_goDay_5 (by decide) (fun _ => ?_) (fun hq => absurd (Int32.le_refl _) hq)
    refine g_aload_n dX7_goDay_66 rfl ?_
    refine g_get 9 rfl (by decide) inX7 0 (by decide) fl_X7_9 dX7_goDay_67 hS.1 hS.2.2.1 ?_
    refine g_iconst (v := nI 0) dX7_goDay_70 (by decide) ?_
    refine g_dup2 dX7_goDay_71 rfl rfl ?_
    refine g_iaload dX7_goDay_72 hS.2.1 (vp_in_nI (by decide) (by decide)) (hS.rd (k := 0) (by decide)) ?_
    refine g_iconst (v := nI 1) dX7_goDay_73 (by decide) ?_
    refine g_iadd dX7_goDay_74 ?_
    refine g_iastore dX7_goDay_75 hS.2.1 (vp_in_nI (by decide) (by decide)) ?_
    have hS2 : SA sh (hu V1 (m + 1) 0 (.int (dayN f 12 0 + nI 1))) m (dayF f) := SA.wr (k := 0) (x := dayN f 12 0 + nI 1) hS
    exact g_vret rfl dX7_goDay_76 (by decide) (hP _ hw.put hS2)
  | succ d ih =>
    intro j hjd V1 hw hS
    have hj : j < 12 := by omega
    have hI1 := dayN_inv hI (j := j) (by omega)
    have hice := (hI1.2.2.2.1 j hj).1
    have hok := okI_niF hice hI1.2.1.1 hI1.2.1.2
    have tail : ∀ V2, Mw V V2 m → SA sh V2 m (dayM (dayN f j) j) → G E MX7_goDay P sh sz V2 0 0 60 [some (.ref m), some (.int (nI j))] [] := by
      intro V2 hw2 hS2
      have ih := ih (j + 1) (by omega) V2 hw2 hS2
      refine g_iinc dX7_goDay_60 rfl (by first | exact nI_inc _ | rfl) (by decide) rfl ?_
      show G _ _ _ _ _ _ _ _ _ [_, _] _
      refine g_jump (tgt := 2) dX7_goDay_63 (by decide) ?_
      exact ih
    unfold dayM at tail
    generalize dayN f j = g at hS hI1 hice hok tail
    refine g_iload_n dX7_goDay_2 rfl ?_
    refine g_bipush (v := nI 12) dX7_goDay_3 (by decide) ?_
    refine g_icmp_ge (tgt := 66) dX7_goDay_5 (by decide) (fun hq => absurd hq (nI_ge (by omega) (by omega))) (fun _ => ?_)
    refine g_aload_n dX7_goDay_8 rfl ?_
    refine g_iload_n dX7_goDay_9 rfl ?_
    refine g_aload_n dX7_goDay_10 rfl ?_
    refine g_aload_n dX7_goDay_11 rfl ?_
    refine g_iload_n dX7_goDay_12 rfl ?_
    refine g_callVp (Y := YX7_iceOf) sv_X7_114 rfl yn_X7_iceOf 9 (by decide) rfl rfl dX7_goDay_13 (k_iceOf hS hj hice pR_ok) hS.1 rfl rfl rfl (Nat.le_of_ble_eq_true rfl) ⟨rfl, rfl⟩ ?_
    refine g_callVp (Y := YX7_iceBehind) sv_X7_194 rfl yn_X7_iceBehind 9 (by decide) rfl rfl dX7_goDay_16 (k_iceBehind hS hI1 hice pR_ok) hS.1 rfl rfl rfl (Nat.le_of_ble_eq_true rfl) ⟨rfl, rfl⟩ ?_
    refine g_callVv (Y := YX7_setIce) sv_X7_37 rfl yn_X7_setIce 9 (by decide) rfl rfl dX7_goDay_19 (k_setIce (P := pV (fun V' => V' = hu V1 (m + 1) (oM j 0) (.int (niF (g (oM j 0)).toUInt32 (g 5)).toInt32)) sh sz) hS hj hok.n ⟨rfl, rfl, rfl, rfl⟩) hS.1 rfl rfl rfl (Nat.le_of_ble_eq_true rfl) ⟨rfl, rfl⟩ (fun V2 q => ?_)
    have hS2 := SA.wr (k := oM j 0) (x := (niF (g (oM j 0)).toUInt32 (g 5)).toInt32) hS
    have hw2 := hw.put (k := oM j 0) (v := .int (niF (g (oM j 0)).toUInt32 (g 5)).toInt32)
    rw [← q] at hS2 hw2
    clear q
    have a5 : upd g (oM j 0) (niF (g (oM j 0)).toUInt32 (g 5)).toInt32 5 = g 5 := pk_un (by unfold oM; omega)
    have a1 : upd g (oM j 0) (niF (g (oM j 0)).toUInt32 (g 5)).toInt32 (oM j 1) = g (oM j 1) := pk_un (oM_ne (by decide))
    have r5 := hS2.rd (k := 5) (by decide)
    rw [a5] at r5
    have wr : ∀ x, SA sh (hu V2 (m + 1) (oM j 1) (.int x)) m (upd (upd g (oM j 0) (niF (g (oM j 0)).toUInt32 (g 5)).toInt32) (oM j 1) x) := fun x => SA.wr (k := oM j 1) (x := x) hS2
    generalize upd g (oM j 0) (niF (g (oM j 0)).toUInt32 (g 5)).toInt32 = g2 at hS2 a5 a1 tail wr
    refine g_aload_n dX7_goDay_22 rfl ?_
    refine g_iload_n dX7_goDay_23 rfl ?_
    refine g_iconst (v := nI 1) dX7_goDay_24 (by decide) ?_
    refine g_aload_n dX7_goDay_25 rfl ?_
    refine g_get 9 rfl (by decide) inX7 0 (by decide) fl_X7_9 dX7_goDay_26 hS2.1 hS2.2.2.1 ?_
    refine g_iconst (v := nI 5) dX7_goDay_29 (by decide) ?_
    refine g_iaload dX7_goDay_30 hS2.2.1 (vp_in_nI (by decide) (by decide)) r5 ?_
    refine g_bipush (v := (-20)) dX7_goDay_31 (by decide) ?_
    refine g_icmp_ge (tgt := 51) dX7_goDay_33 (by decide) (fun b1 => ?_) (fun b1 => ?_)
    · rw [if_neg (Int32.not_lt.mpr b1)] at tail
      refine g_aload_n dX7_goDay_51 rfl ?_
      refine g_iload_n dX7_goDay_52 rfl ?_
      refine g_iconst (v := nI 1) dX7_goDay_53 (by decide) ?_
      refine g_callVp (Y := YX7_get) sv_X7_67 rfl yn_X7_get 9 (by decide) rfl rfl dX7_goDay_54 (k_get hS2 hj (k := 1) (by decide) pR_ok) hS2.1 rfl rfl rfl (Nat.le_of_ble_eq_true rfl) ⟨rfl, rfl⟩ ?_
      rw [a1]
      refine g_callVv (Y := YX7_set) sv_X7_41 rfl yn_X7_set 9 (by decide) rfl rfl dX7_goDay_57 (k_set (P := pV (fun V' => V' = hu V2 (m + 1) (oM j 1) (.int (g (oM j 1)))) sh sz) hS2 hj (k := 1) (by decide) ⟨rfl, rfl, rfl, rfl⟩) hS2.1 rfl rfl rfl (Nat.le_of_ble_eq_true rfl) ⟨rfl, rfl⟩ (fun V3 q => ?_)
      rw [q]
      exact tail _ hw2.put (wr _)
    · rw [if_pos (Int32.not_le.mp b1)] at tail
      refine g_iconst (v := nI 0) dX7_goDay_36 (by decide) ?_
      refine g_aload_n dX7_goDay_37 rfl ?_
      refine g_iload_n dX7_goDay_38 rfl ?_
      refine g_iconst (v := nI 1) dX7_goDay_39 (by decide) ?_
      refine g_callVp (Y := YX7_get) sv_X7_67 rfl yn_X7_get 9 (by decide) rfl rfl dX7_goDay_40 (k_get hS2 hj (k := 1) (by decide) pR_ok) hS2.1 rfl rfl rfl (Nat.le_of_ble_eq_true rfl) ⟨rfl, rfl⟩ ?_
      rw [a1]
      refine g_iconst (v := nI 1) dX7_goDay_43 (by decide) ?_
      refine g_isub dX7_goDay_44 ?_
      refine g_mmax ml_X7_198 wm_mmax_s wm_ini wm_mmax_c dX7_goDay_45 (Nat.le_of_ble_eq_true rfl) (Nat.le_of_ble_eq_true rfl) ⟨Nat.le_of_ble_eq_true rfl, Nat.le_of_ble_eq_true rfl⟩ ?_
      refine g_jump (tgt := 57) dX7_goDay_48 (by decide) ?_
      have e : (if nI 0 < g (oM j 1) - nI 1 then g (oM j 1) - nI 1 else nI 0) = if g (oM j 1) - nI 1 < nI 0 then nI 0 else g (oM j 1) - nI 1 := by
        by_cases a : nI 0 < g (oM j 1) - nI 1
        · rw [if_pos a, if_neg (fun b => Int32.lt_irrefl (Int32.lt_trans a b))]
        · rw [if_neg a]
          by_cases b : g (oM j 1) - nI 1 < nI 0
          · rw [if_pos b]
          · rw [if_neg b]
            exact Int32.le_antisymm (Int32.not_lt.mp b) (Int32.not_lt.mp a)
      rw [e]
      refine g_callVv (Y := YX7_set) sv_X7_41 rfl yn_X7_set 9 (by decide) rfl rfl dX7_goDay_57 (k_set (P := pV (fun V' => V' = hu V2 (m + 1) (oM j 1) (.int (if g (oM j 1) - nI 1 < nI 0 then nI 0 else g (oM j 1) - nI 1))) sh sz) hS2 hj (k := 1) (by decide) ⟨rfl, rfl, rfl, rfl⟩) hS2.1 rfl rfl rfl (Nat.le_of_ble_eq_true rfl) ⟨rfl, rfl⟩ (fun V3 q => ?_)
      rw [q]
      exact tail _ hw2.put (wr _)
end REF5

