/-! the reference: done, ice, counts -/
section REF3
variable {E : gE} {M : gM} {P : gP} {sh : Sh} {sz : Nat} {V V' : Vl} {cu su pc : Nat} {L : List (Option Value)} {rest : List Value} {m : Nat} {f : Fl}
theorem mt_st {ld g : Int32} {k : Nat} (h : 0 ≤ ld) : mt ld g k = mw ld g k := if_pos h
theorem mt_ns {ld g : Int32} {k : Nat} (h : ¬ 0 ≤ ld) : mt ld g k = -1 := if_neg h
theorem iC.go {c : Nat} (h : iC f c) (h0 : 0 ≤ f (oC c 2)) : 1 ≤ ncv f c ∧ ∃ l, l ≤ 24 ∧ f (oC c 2) = nI l := by
  obtain ⟨-, -, -, st, -⟩ := h
  rcases st with ⟨a, b⟩ | ⟨a, b, c⟩
  · rw [b] at h0
    exact absurd h0 (by decide)
  · exact ⟨b, c⟩
theorem done_iff {c : Nat} (h : iC f c) : dnF f c ↔ 0 ≤ f (oC c 2) ∧ nI 12 ≤ mw (f (oC c 2)) (f (oC c 0)) (ncv f c - 1) := by
  obtain ⟨⟨g, g1, g2, eg⟩, i1, i2, -, -⟩ := id h
  constructor
  · rintro ⟨h0, hd⟩
    refine ⟨h0, ?_⟩
    obtain ⟨n1, -⟩ := h.go h0
    have := of_decide_eq_true (fb_ct_all.mp hd (ncv f c - 1) (by omega))
    rw [mt_st h0] at this
    exact this
  · rintro ⟨h0, hd⟩
    refine ⟨h0, fb_ct_all.mpr fun k hk => decide_eq_true ?_⟩
    obtain ⟨n1, l, hl, el⟩ := h.go h0
    rw [mt_st h0]
    rw [el, eg, fa_le] at hd ⊢
    rw [mw_int (by omega) (by omega) (by omega)] at hd ⊢
    have : k * (g + 1) ≤ (ncv f c - 1) * (g + 1) := Nat.mul_le_mul_right _ (by omega)
    have e : ((k * (g + 1) : Nat) : Int) ≤ ((ncv f c - 1) * (g + 1) : Nat) := Int.ofNat_le.mpr this
    push_cast at e
    omega
theorem nI_m1n {n : Nat} (h : 1 ≤ n) (hn : n < 2 ^ 30) : nI n - nI 1 = nI (n - 1) := by
  apply Int32.toInt_inj.mp
  rw [pk_sub_toInt hn (by decide), nI_toInt (by omega)]
  omega
theorem k_isDone {c : Nat} (h : SA sh V m f) (hI : InvB f) (hc : c < cnt f) (hP : P (.inl (some (.int (bi (dnF f c))))) sh sz V) : MC E YX7_isDone [.ref m, .int (nI c)] sh sz V P := by
  have h44 := hI.1.2
  have hi := hI.cv hc
  obtain ⟨i0, i1, i2, i3, i4⟩ := id hi
  refine MC.of RX7 "isDone" rfl (by decide +kernel) rfl 0 [_, _] rfl (Nat.le_of_ble_eq_true rfl) ?_
  show G E MX7_isDone _ _ _ _ _ _ _ _ _
  refine g_aload_n dX7_isDone_0 rfl ?_
  refine g_iload_n dX7_isDone_1 rfl ?_
  refine g_callVp (Y := YX7_isStarted) sv_X7_144 rfl yn_X7_isStarted 9 (by decide) rfl rfl dX7_isDone_2 (k_isStarted h hI hc pR_ok) h.1 rfl rfl rfl (Nat.le_of_ble_eq_true rfl) ⟨rfl, rfl⟩ ?_
  refine g_if_eq (tgt := 36) dX7_isDone_5 (by decide) (fun b1 => ?_) (fun b1 => ?_)
  · rw [bi_f (p := dnF f c) (fun q => bi_eq b1 q.1)] at hP
    refine g_iconst (v := nI 0) dX7_isDone_36 (by decide) ?_
    exact g_iret rfl nz0 dX7_isDone_37 (by decide) hP
  have b1 := bi_ne b1
  obtain ⟨n1, -⟩ := hi.go b1
  refine g_aload_n dX7_isDone_8 rfl ?_
  refine g_iload_n dX7_isDone_9 rfl ?_
  refine g_aload_n dX7_isDone_10 rfl ?_
  refine g_iload_n dX7_isDone_11 rfl ?_
  refine g_iconst (v := nI 1) dX7_isDone_12 (by decide) ?_
  refine g_callVp (Y := YX7_convoy1) sv_X7_81 rfl yn_X7_convoy1 9 (by decide) rfl rfl dX7_isDone_13 (k_convoy1 h (c := c) (k := 1) (by omega) (by decide) pR_ok) h.1 rfl rfl rfl (Nat.le_of_ble_eq_true rfl) ⟨rfl, rfl⟩ ?_
  rw [i1]
  refine g_iconst (v := nI 1) dX7_isDone_16 (by decide) ?_
  refine g_isub dX7_isDone_17 ?_
  refine g_aload_n dX7_isDone_18 rfl ?_
  refine g_iload_n dX7_isDone_19 rfl ?_
  refine g_iconst (v := nI 2) dX7_isDone_20 (by decide) ?_
  refine g_callVp (Y := YX7_convoy1) sv_X7_81 rfl yn_X7_convoy1 9 (by decide) rfl rfl dX7_isDone_21 (k_convoy1 h (c := c) (k := 2) (by omega) (by decide) pR_ok) h.1 rfl rfl rfl (Nat.le_of_ble_eq_true rfl) ⟨rfl, rfl⟩ ?_
  rw [nI_m1n n1 (by omega)]
  refine g_callVp (Y := YX7_mileBy) sv_X7_147 rfl yn_X7_mileBy 9 (by decide) rfl rfl dX7_isDone_24 (k_mileBy h (c := c) (p := ncv f c - 1) (by omega) pR_ok) h.1 rfl rfl rfl (Nat.le_of_ble_eq_true rfl) ⟨rfl, rfl⟩ ?_
  refine g_bipush (v := nI 12) dX7_isDone_27 (by decide) ?_
  refine g_icmp_lt (tgt := 36) dX7_isDone_29 (by decide) (fun b2 => ?_) (fun b2 => ?_)
  · rw [bi_f (p := dnF f c) (fun q => Int32.not_le.mpr b2 ((done_iff hi).mp q).2)] at hP
    refine g_iconst (v := nI 0) dX7_isDone_36 (by decide) ?_
    exact g_iret rfl nz0 dX7_isDone_37 (by decide) hP
  · rw [bi_t (p := dnF f c) ((done_iff hi).mpr ⟨b1, Int32.not_lt.mp b2⟩)] at hP
    refine g_iconst (v := nI 1) dX7_isDone_32 (by decide) ?_
    refine g_jump (tgt := 37) dX7_isDone_33 (by decide) ?_
    exact g_iret rfl nz1 dX7_isDone_37 (by decide) hP
theorem k_isTruck {c p : Int32} (h : SA sh V m f) (hI : InvB f) (hP : P (.inl (some (.int (bi (isT f c p))))) sh sz V) : MC E YX7_isTruck [.ref m, .int c, .int p] sh sz V P := by
  have h44 := hI.1.2
  refine MC.of RX7 "isTruck" rfl (by decide +kernel) rfl 0 [_, _, _] rfl (Nat.le_of_ble_eq_true rfl) ?_
  show G E MX7_isTruck _ _ _ _ _ _ _ _ _
  refine g_aload_n dX7_isTruck_0 rfl ?_
  refine g_iload_n dX7_isTruck_1 rfl ?_
  refine g_callVp (Y := YX7_isConvoy) sv_X7_134 rfl yn_X7_isConvoy 9 (by decide) rfl rfl dX7_isTruck_2 (k_isConvoy h hI pR_ok) h.1 rfl rfl rfl (Nat.le_of_ble_eq_true rfl) ⟨rfl, rfl⟩ ?_
  refine g_if_eq (tgt := 28) dX7_isTruck_5 (by decide) (fun b1 => ?_) (fun b1 => ?_)
  · rw [bi_f (p := isT f c p) (fun q => bi_eq b1 q.1)] at hP
    refine g_iconst (v := nI 0) dX7_isTruck_28 (by decide) ?_
    exact g_iret rfl nz0 dX7_isTruck_29 (by decide) hP
  have b1 := bi_ne b1
  obtain ⟨c, hc, rfl⟩ := isC_of hI b1
  obtain ⟨i0, i1, i2, i3, i4⟩ := hI.cv hc
  refine g_iload_n dX7_isTruck_8 rfl ?_
  refine g_iconst (v := nI 0) dX7_isTruck_9 (by decide) ?_
  refine g_aload_n dX7_isTruck_10 rfl ?_
  refine g_iload_n dX7_isTruck_11 rfl ?_
  refine g_iconst (v := nI 1) dX7_isTruck_12 (by decide) ?_
  refine g_callVp (Y := YX7_convoy1) sv_X7_81 rfl yn_X7_convoy1 9 (by decide) rfl rfl dX7_isTruck_13 (k_convoy1 h (c := c) (k := 1) (by omega) (by decide) pR_ok) h.1 rfl rfl rfl (Nat.le_of_ble_eq_true rfl) ⟨rfl, rfl⟩ ?_
  rw [i1]
  refine g_iconst (v := nI 1) dX7_isTruck_16 (by decide) ?_
  refine g_isub dX7_isTruck_17 ?_
  refine g_callSp (Y := YX7_in) ss_X7_84 yn_X7_in dX7_isTruck_18 (k_in pR_ok) rfl rfl rfl (Nat.le_of_ble_eq_true rfl) ⟨rfl, rfl⟩ ?_
  have e : bi (nI 0 ≤ p ∧ p ≤ nI (ncv f c) - nI 1) = bi (0 ≤ p ∧ p < nI (ncv f c)) := bi_iff ⟨fun q => ⟨q.1, (le_m1 (by omega)).mp q.2⟩, fun q => ⟨q.1, (le_m1 (by omega)).mpr q.2⟩⟩
  rw [e]
  refine g_if_eq (tgt := 28) dX7_isTruck_21 (by decide) (fun b2 => ?_) (fun b2 => ?_)
  · rw [bi_f (p := isT f (nI c) p) (fun q => bi_eq b2 (by have := q.2; rw [nI_clamp (by omega)] at this; exact this))] at hP
    refine g_iconst (v := nI 0) dX7_isTruck_28 (by decide) ?_
    exact g_iret rfl nz0 dX7_isTruck_29 (by decide) hP
  · rw [bi_t (p := isT f (nI c) p) ⟨b1, by rw [nI_clamp (by omega)]; exact bi_ne b2⟩] at hP
    refine g_iconst (v := nI 1) dX7_isTruck_24 (by decide) ?_
    refine g_jump (tgt := 29) dX7_isTruck_25 (by decide) ?_
    exact g_iret rfl nz1 dX7_isTruck_29 (by decide) hP
theorem k_iceBehind {x : UInt32} (h : SA sh V m f) (hI : InvB f) (hx : okI x) (hP : P (.inl (some (.float (niF x (f 5))))) sh sz V) : MC E YX7_iceBehind [.ref m, .float x] sh sz V P := by
  have t1 := hI.2.1.1
  have t2 := hI.2.1.2
  have h5 := h.rd (k := 5) (by decide)
  generalize f 5 = t at hP t1 t2 h5
  refine MC.of RX7 "iceBehind" rfl (by decide +kernel) rfl 2 [_, _, none, none] rfl (Nat.le_of_ble_eq_true rfl) ?_
  show G E MX7_iceBehind _ _ _ _ _ _ _ _ _
  refine g_aload_n dX7_iceBehind_0 rfl ?_
  refine g_get 9 rfl (by decide) inX7 0 (by decide) fl_X7_9 dX7_iceBehind_1 h.1 h.2.2.1 ?_
  refine g_iconst (v := nI 5) dX7_iceBehind_4 (by decide) ?_
  refine g_iaload dX7_iceBehind_5 h.2.1 (vp_in_nI (by decide) (by decide)) h5 ?_
  refine g_mabs ml_X7_187 wm_mabs_s wm_ini wm_mabs_c dX7_iceBehind_6 (Nat.le_of_ble_eq_true rfl) (Nat.le_of_ble_eq_true rfl) ⟨Nat.le_of_ble_eq_true rfl, Nat.le_of_ble_eq_true rfl⟩ ?_
  refine g_i2f dX7_iceBehind_9 ?_
  refine g_fstore_n dX7_iceBehind_10 (by decide) rfl ?_
  show G _ _ _ _ _ _ _ _ _ [_, _, _, _] _
  refine g_aload_n dX7_iceBehind_11 rfl ?_
  refine g_get 9 rfl (by decide) inX7 0 (by decide) fl_X7_9 dX7_iceBehind_12 h.1 h.2.2.1 ?_
  refine g_iconst (v := nI 5) dX7_iceBehind_15 (by decide) ?_
  refine g_iaload dX7_iceBehind_16 h.2.1 (vp_in_nI (by decide) (by decide)) h5 ?_
  unfold niF at hP
  have K : ∀ z, G E MX7_iceBehind P sh sz V 0 0 40 [some (.ref m), some (.float x), some (.float z), none] [.float (niR x t)] := by
    intro z
    refine g_fstore_n dX7_iceBehind_40 (by decide) rfl ?_
    show G _ _ _ _ _ _ _ _ _ [_, _, _, _] _
    refine g_fload_n dX7_iceBehind_41 rfl ?_
    refine g_fconst0 dX7_iceBehind_42 ?_
    refine g_fcmp dX7_iceBehind_43 ?_
    refine g_if_ge (tgt := 51) dX7_iceBehind_44 (by decide) (fun b2 => ?_) (fun b2 => ?_)
    rotate_left
    · rw [if_pos (Int32.not_le.mp b2)] at hP
      refine g_fconst0 dX7_iceBehind_47 ?_
      refine g_jump (tgt := 64) dX7_iceBehind_48 (by decide) ?_
      exact g_fret rfl dX7_iceBehind_64 (by decide) hP
    rw [if_neg (Int32.not_lt.mpr b2)] at hP
    refine g_fload_n dX7_iceBehind_51 rfl ?_
    refine g_ldcf kc_X7_193 dX7_iceBehind_52 ?_
    refine g_fcmp dX7_iceBehind_54 ?_
    refine g_if_le (tgt := 63) dX7_iceBehind_55 (by decide) (fun b3 => ?_) (fun b3 => ?_)
    · rw [if_neg (Int32.not_lt.mpr b3)] at hP
      refine g_fload_n dX7_iceBehind_63 rfl ?_
      exact g_fret rfl dX7_iceBehind_64 (by decide) hP
    · rw [if_pos (Int32.not_le.mp b3)] at hP
      refine g_ldcf kc_X7_193 dX7_iceBehind_58 ?_
      refine g_jump (tgt := 64) dX7_iceBehind_60 (by decide) ?_
      exact g_fret rfl dX7_iceBehind_64 (by decide) hP
  unfold niR at K
  refine g_if_ge (tgt := 34) dX7_iceBehind_17 (by decide) (fun b1 => ?_) (fun b1 => ?_)
  · rw [if_neg (Int32.not_lt.mpr b1)] at K
    obtain ⟨w1, w2⟩ := fp_warm hx b1 t2
    rw [if_pos b1]
    refine g_fload_n dX7_iceBehind_34 rfl ?_
    refine g_ldcf kc_X7_192 dX7_iceBehind_35 ?_
    refine g_fload_n dX7_iceBehind_37 rfl ?_
    refine g_fmul dX7_iceBehind_38 w1 ?_
    refine g_fsub dX7_iceBehind_39 w2 ?_
    exact K _
  · have b1 := Int32.not_le.mp b1
    rw [if_pos b1] at K
    obtain ⟨w1, w2, w3, w4⟩ := fp_cold hx t1 b1
    rw [if_neg (Int32.not_le.mpr b1), Int32.zero_sub]
    refine g_fload_n dX7_iceBehind_20 rfl ?_
    refine g_fload_n dX7_iceBehind_21 rfl ?_
    refine g_ldcf kc_X7_190 dX7_iceBehind_22 ?_
    refine g_fmul dX7_iceBehind_24 w1 ?_
    refine g_fload_n dX7_iceBehind_25 rfl ?_
    refine g_ldcf kc_X7_191 dX7_iceBehind_26 ?_
    refine g_fadd dX7_iceBehind_28 w2 ?_
    refine g_fdiv dX7_iceBehind_29 w3 ?_
    refine g_fadd dX7_iceBehind_30 w4 ?_
    refine g_jump (tgt := 40) dX7_iceBehind_31 (by decide) ?_
    exact K _
theorem k_goodMany (h : SA sh V m f) (hP : P (.inl (some (.int (goodN f)))) sh sz V) : MC E YX7_goodMany [.ref m] sh sz V P := by
  refine MC.of RX7 "goodMany" rfl (by decide +kernel) rfl 2 [_, none, none] rfl (Nat.le_of_ble_eq_true rfl) ?_
  show G E MX7_goodMany _ _ _ _ _ _ _ _ _
  refine g_iconst (v := nI 0) dX7_goodMany_0 (by decide) ?_
  refine g_istore_n dX7_goodMany_1 (by decide) rfl ?_
  show G _ _ _ _ _ _ _ _ _ [_, _, _] _
  refine g_iconst (v := nI 0) dX7_goodMany_2 (by decide) ?_
  refine g_istore_n dX7_goodMany_3 (by decide) rfl ?_
  show G _ _ _ _ _ _ _ _ _ [_, _, _] _
  suffices K : ∀ (d i : Nat), i + d = 12 → G E MX7_goodMany P sh sz V 0 0 4 [some (.ref m), some (.int (sI (fun j => bgd f j) i)), some (.int (nI i))] [] from K 12 0 rfl
  intro d
  induction d with
  | zero =>
    intro i hi
    have hi : i = 12 := by omega
    subst hi
    refine g_iload_n dX7_goodMany_4 rfl ?_
    refine g_bipush (v := nI 12) dX7_goodMany_5 (by decide) ?_
    refine g_icmp_ge (tgt := 32) dX7_goodMany_7 (by decide) (fun _ => ?_) (fun hq => absurd (Int32.le_refl _) hq)
    refine g_iload_n dX7_goodMany_32 rfl ?_
    exact g_iret rfl (nr_int _) dX7_goodMany_33 (by decide) hP
  | succ d ih =>
    intro i hi
    have ih := ih (i + 1) (by omega)
    rw [sI_succ] at ih
    refine g_iload_n dX7_goodMany_4 rfl ?_
    refine g_bipush (v := nI 12) dX7_goodMany_5 (by decide) ?_
    refine g_icmp_ge (tgt := 32) dX7_goodMany_7 (by decide) (fun hq => absurd hq (nI_ge (by omega) (by omega))) (fun _ => ?_)
    refine g_iload_n dX7_goodMany_10 rfl ?_
    refine g_aload_n dX7_goodMany_11 rfl ?_
    refine g_iload_n dX7_goodMany_12 rfl ?_
    refine g_callVp (Y := YX7_isGood) sv_X7_108 rfl yn_X7_isGood 9 (by decide) rfl rfl dX7_goodMany_13 (k_isGood h (j := i) (by omega) pR_ok) h.1 rfl rfl rfl (Nat.le_of_ble_eq_true rfl) ⟨rfl, rfl⟩ ?_
    refine g_if_eq (tgt := 23) dX7_goodMany_16 (by decide) (fun b1 => ?_) (fun b1 => ?_)
    · rw [bgd_f (bgd_eq b1)] at ih
      refine g_iconst (v := nI 0) dX7_goodMany_23 (by decide) ?_
      refine g_iadd dX7_goodMany_24 ?_
      refine g_istore_n dX7_goodMany_25 (by decide) rfl ?_
      show G _ _ _ _ _ _ _ _ _ [_, _, _] _
      refine g_iinc dX7_goodMany_26 rfl (by first | exact nI_inc _ | rfl) (by decide) rfl ?_
      show G _ _ _ _ _ _ _ _ _ [_, _, _] _
      refine g_jump (tgt := 4) dX7_goodMany_29 (by decide) ?_
      exact ih
    · rw [bgd_t (bgd_ne b1)] at ih
      refine g_iconst (v := nI 1) dX7_goodMany_19 (by decide) ?_
      refine g_jump (tgt := 24) dX7_goodMany_20 (by decide) ?_
      refine g_iadd dX7_goodMany_24 ?_
      refine g_istore_n dX7_goodMany_25 (by decide) rfl ?_
      show G _ _ _ _ _ _ _ _ _ [_, _, _] _
      refine g_iinc dX7_goodMany_26 rfl (by first | exact nI_inc _ | rfl) (by decide) rfl ?_
      show G _ _ _ _ _ _ _ _ _ [_, _, _] _
      refine g_jump (tgt := 4) dX7_goodMany_29 (by decide) ?_
      exact ih
/-- which trucks are counted -/
def twP (f : Fl) (c : Nat) (b : Int32) (k : Nat) : Bool := if b = 0 then decide (isM (mt (f (oC c 2)) (f (oC c 0)) k)) else decide (nI 12 ≤ mt (f (oC c 2)) (f (oC c 0)) k)
theorem k_trucksOf {c : Nat} {b : Int32} (h : SA sh V m f) (hI : InvB f) (hc : c < cnt f) (hP : P (.inl (some (.int (nI (fb_ct (twP f c b) (ncv f c)))))) sh sz V) : MC E YX7_trucksOf [.ref m, .int (nI c), .int b] sh sz V P := by
  have h44 := hI.1.2
  obtain ⟨i0, i1, i2, i3, i4⟩ := hI.cv hc
  refine MC.of RX7 "trucksOf" rfl (by decide +kernel) rfl 3 [_, _, _, none, none, none] rfl (Nat.le_of_ble_eq_true rfl) ?_
  show G E MX7_trucksOf _ _ _ _ _ _ _ _ _
  refine g_iconst (v := nI 0) dX7_trucksOf_0 (by decide) ?_
  refine g_istore_n dX7_trucksOf_1 (by decide) rfl ?_
  show G _ _ _ _ _ _ _ _ _ [_, _, _, _, _, _] _
  refine g_iconst (v := nI 0) dX7_trucksOf_2 (by decide) ?_
  refine g_istore dX7_trucksOf_3 (by decide) rfl ?_
  show G _ _ _ _ _ _ _ _ _ [_, _, _, _, _, _] _
  by_cases hs : 0 ≤ f (oC c 2)
  rotate_left
  · have : fb_ct (twP f c b) (ncv f c) = 0 := fb_ct_zero.mpr fun k hk => by
      unfold twP
      rw [mt_ns hs]
      by_cases z : b = 0
      · rw [if_pos z]
        exact decide_eq_false (fun q => absurd q.1 (by decide))
      · rw [if_neg z]
        exact decide_eq_false (by decide)
    rw [this] at hP
    refine g_iload dX7_trucksOf_5 rfl ?_
    refine g_aload_n dX7_trucksOf_7 rfl ?_
    refine g_iload_n dX7_trucksOf_8 rfl ?_
    refine g_iconst (v := nI 1) dX7_trucksOf_9 (by decide) ?_
    refine g_callVp (Y := YX7_convoy1) sv_X7_81 rfl yn_X7_convoy1 9 (by decide) rfl rfl dX7_trucksOf_10 (k_convoy1 h (c := c) (k := 1) (by omega) (by decide) pR_ok) h.1 rfl rfl rfl (Nat.le_of_ble_eq_true rfl) ⟨rfl, rfl⟩ ?_
    refine g_icmp_ge (tgt := 75) dX7_trucksOf_13 (by decide) (fun b0 => ?_) (fun b0 => ?_)
    · refine g_iload_n dX7_trucksOf_75 rfl ?_
      exact g_iret rfl (nr_int _) dX7_trucksOf_76 (by decide) hP
    refine g_aload_n dX7_trucksOf_16 rfl ?_
    refine g_iload_n dX7_trucksOf_17 rfl ?_
    refine g_callVp (Y := YX7_isStarted) sv_X7_144 rfl yn_X7_isStarted 9 (by decide) rfl rfl dX7_trucksOf_18 (k_isStarted h hI hc pR_ok) h.1 rfl rfl rfl (Nat.le_of_ble_eq_true rfl) ⟨rfl, rfl⟩ ?_
    rw [bi_f hs]
    refine g_if_eq (tgt := 75) dX7_trucksOf_21 (by decide) (fun _ => ?_) (fun hq => absurd (rfl) hq)
    refine g_iload_n dX7_trucksOf_75 rfl ?_
    exact g_iret rfl (nr_int _) dX7_trucksOf_76 (by decide) hP
  suffices K : ∀ (d i : Nat), i + d = ncv f c → ∀ z, G E MX7_trucksOf P sh sz V 0 0 5 [some (.ref m), some (.int (nI c)), some (.int b), some (.int (nI (fb_ct (twP f c b) i))), some (.int (nI i)), z] [] from K _ 0 (Nat.zero_add _) _
  intro d
  induction d with
  | zero =>
    intro i hi z
    have hi : i = ncv f c := by omega
    rw [hi]
    refine g_iload dX7_trucksOf_5 rfl ?_
    refine g_aload_n dX7_trucksOf_7 rfl ?_
    refine g_iload_n dX7_trucksOf_8 rfl ?_
    refine g_iconst (v := nI 1) dX7_trucksOf_9 (by decide) ?_
    refine g_callVp (Y := YX7_convoy1) sv_X7_81 rfl yn_X7_convoy1 9 (by decide) rfl rfl dX7_trucksOf_10 (k_convoy1 h (c := c) (k := 1) (by omega) (by decide) pR_ok) h.1 rfl rfl rfl (Nat.le_of_ble_eq_true rfl) ⟨rfl, rfl⟩ ?_
    rw [i1]
    refine g_icmp_ge (tgt := 75) dX7_trucksOf_13 (by decide) (fun _ => ?_) (fun hq => absurd (Int32.le_refl _) hq)
    refine g_iload_n dX7_trucksOf_75 rfl ?_
    exact g_iret rfl (nr_int _) dX7_trucksOf_76 (by decide) hP
  | succ d ih =>
    intro i hi z
    have ih := ih (i + 1) (by omega) (some (.int (mw (f (oC c 2)) (f (oC c 0)) i)))
    rw [fb_ct_succ] at ih
    have yes : twP f c b i = true → G E MX7_trucksOf P sh sz V 0 0 62 [some (.ref m), some (.int (nI c)), some (.int b), some (.int (nI (fb_ct (twP f c b) i))), some (.int (nI i)), some (.int (mw (f (oC c 2)) (f (oC c 0)) i))] [.int (nI (fb_ct (twP f c b) i))] := by
      intro q
      rw [if_pos q, ← nI_add] at ih
      refine g_iconst (v := nI 1) dX7_trucksOf_62 (by decide) ?_
      refine g_jump (tgt := 67) dX7_trucksOf_63 (by decide) ?_
      refine g_iadd dX7_trucksOf_67 ?_
      refine g_istore_n dX7_trucksOf_68 (by decide) rfl ?_
      show G _ _ _ _ _ _ _ _ _ [_, _, _, _, _, _] _
      refine g_iinc dX7_trucksOf_69 rfl (by first | exact nI_inc _ | rfl) (by decide) rfl ?_
      show G _ _ _ _ _ _ _ _ _ [_, _, _, _, _, _] _
      refine g_jump (tgt := 5) dX7_trucksOf_72 (by decide) ?_
      exact ih
    have nope : twP f c b i = false → G E MX7_trucksOf P sh sz V 0 0 66 [some (.ref m), some (.int (nI c)), some (.int b), some (.int (nI (fb_ct (twP f c b) i))), some (.int (nI i)), some (.int (mw (f (oC c 2)) (f (oC c 0)) i))] [.int (nI (fb_ct (twP f c b) i))] := by
      intro q
      rw [if_neg (by rw [q]; decide), ← nI_add] at ih
      refine g_iconst (v := nI 0) dX7_trucksOf_66 (by decide) ?_
      refine g_iadd dX7_trucksOf_67 ?_
      refine g_istore_n dX7_trucksOf_68 (by decide) rfl ?_
      show G _ _ _ _ _ _ _ _ _ [_, _, _, _, _, _] _
      refine g_iinc dX7_trucksOf_69 rfl (by first | exact nI_inc _ | rfl) (by decide) rfl ?_
      show G _ _ _ _ _ _ _ _ _ [_, _, _, _, _, _] _
      refine g_jump (tgt := 5) dX7_trucksOf_72 (by decide) ?_
      exact ih
    unfold twP at yes nope
    rw [mt_st hs] at yes nope
    refine g_iload dX7_trucksOf_5 rfl ?_
    refine g_aload_n dX7_trucksOf_7 rfl ?_
    refine g_iload_n dX7_trucksOf_8 rfl ?_
    refine g_iconst (v := nI 1) dX7_trucksOf_9 (by decide) ?_
    refine g_callVp (Y := YX7_convoy1) sv_X7_81 rfl yn_X7_convoy1 9 (by decide) rfl rfl dX7_trucksOf_10 (k_convoy1 h (c := c) (k := 1) (by omega) (by decide) pR_ok) h.1 rfl rfl rfl (Nat.le_of_ble_eq_true rfl) ⟨rfl, rfl⟩ ?_
    rw [i1]
    refine g_icmp_ge (tgt := 75) dX7_trucksOf_13 (by decide) (fun hq => absurd hq (nI_ge (by omega) (by omega))) (fun _ => ?_)
    refine g_aload_n dX7_trucksOf_16 rfl ?_
    refine g_iload_n dX7_trucksOf_17 rfl ?_
    refine g_callVp (Y := YX7_isStarted) sv_X7_144 rfl yn_X7_isStarted 9 (by decide) rfl rfl dX7_trucksOf_18 (k_isStarted h hI hc pR_ok) h.1 rfl rfl rfl (Nat.le_of_ble_eq_true rfl) ⟨rfl, rfl⟩ ?_
    rw [bi_t hs]
    refine g_if_eq (tgt := 75) dX7_trucksOf_21 (by decide) (fun hq => absurd hq ((by decide))) (fun _ => ?_)
    refine g_aload_n dX7_trucksOf_24 rfl ?_
    refine g_iload_n dX7_trucksOf_25 rfl ?_
    refine g_iload dX7_trucksOf_26 rfl ?_
    refine g_aload_n dX7_trucksOf_28 rfl ?_
    refine g_iload_n dX7_trucksOf_29 rfl ?_
    refine g_iconst (v := nI 2) dX7_trucksOf_30 (by decide) ?_
    refine g_callVp (Y := YX7_convoy1) sv_X7_81 rfl yn_X7_convoy1 9 (by decide) rfl rfl dX7_trucksOf_31 (k_convoy1 h (c := c) (k := 2) (by omega) (by decide) pR_ok) h.1 rfl rfl rfl (Nat.le_of_ble_eq_true rfl) ⟨rfl, rfl⟩ ?_
    refine g_callVp (Y := YX7_mileBy) sv_X7_147 rfl yn_X7_mileBy 9 (by decide) rfl rfl dX7_trucksOf_34 (k_mileBy h (c := c) (p := i) (by omega) pR_ok) h.1 rfl rfl rfl (Nat.le_of_ble_eq_true rfl) ⟨rfl, rfl⟩ ?_
    refine g_istore dX7_trucksOf_37 (by decide) rfl ?_
    show G _ _ _ _ _ _ _ _ _ [_, _, _, _, _, _] _
    refine g_iload_n dX7_trucksOf_39 rfl ?_
    refine g_iload_n dX7_trucksOf_40 rfl ?_
    refine g_if_eq (tgt := 54) dX7_trucksOf_41 (by decide) (fun b1 => ?_) (fun b1 => ?_)
    · rw [if_pos b1] at yes nope
      refine g_iload dX7_trucksOf_54 rfl ?_
      refine g_callSp (Y := YX7_isMile) ss_X7_101 yn_X7_isMile dX7_trucksOf_56 (k_isMile pR_ok) rfl rfl rfl (Nat.le_of_ble_eq_true rfl) ⟨rfl, rfl⟩ ?_
      refine g_if_eq (tgt := 66) dX7_trucksOf_59 (by decide) (fun b2 => ?_) (fun b2 => ?_)
      · exact nope (decide_eq_false (bi_eq b2))
      · exact yes (decide_eq_true (bi_ne b2))
    · rw [if_neg b1] at yes nope
      refine g_iload dX7_trucksOf_44 rfl ?_
      refine g_bipush (v := nI 12) dX7_trucksOf_46 (by decide) ?_
      refine g_icmp_lt (tgt := 66) dX7_trucksOf_48 (by decide) (fun b2 => ?_) (fun b2 => ?_)
      · exact nope (decide_eq_false (Int32.not_le.mpr b2))
      · have yes := yes (decide_eq_true (Int32.not_lt.mp b2))
        refine g_jump (tgt := 62) dX7_trucksOf_51 (by decide) ?_
        exact yes
theorem k_whyNot {c : Nat} (h : SA sh V m f) (hI : InvB f) (hc : c < cnt f) (hP : P (.inl (some (.int (e100 (rollO f c))))) sh sz V) : MC E YX7_whyNot [.ref m, .int (nI c)] sh sz V P := by
  have h44 := hI.1.2
  unfold rollO at hP
  refine MC.of RX7 "whyNot" rfl (by decide +kernel) rfl 0 [_, _] rfl (Nat.le_of_ble_eq_true rfl) ?_
  show G E MX7_whyNot _ _ _ _ _ _ _ _ _
  refine g_aload_n dX7_whyNot_0 rfl ?_
  refine g_iload_n dX7_whyNot_1 rfl ?_
  refine g_callVp (Y := YX7_isStarted) sv_X7_144 rfl yn_X7_isStarted 9 (by decide) rfl rfl dX7_whyNot_2 (k_isStarted h hI hc pR_ok) h.1 rfl rfl rfl (Nat.le_of_ble_eq_true rfl) ⟨rfl, rfl⟩ ?_
  refine g_if_ne (tgt := 14) dX7_whyNot_5 (by decide) (fun b1 => ?_) (fun b1 => ?_)
  rotate_left
  · rw [if_pos (bi_eq b1)] at hP
    refine g_sipush (v := nI 400) dX7_whyNot_8 (by decide) ?_
    refine g_iload_n dX7_whyNot_11 rfl ?_
    refine g_iadd dX7_whyNot_12 ?_
    exact g_iret rfl (nr_int _) dX7_whyNot_13 (by decide) hP
  rw [if_neg (fun q => q (bi_ne b1))] at hP
  refine g_aload_n dX7_whyNot_14 rfl ?_
  refine g_iload_n dX7_whyNot_15 rfl ?_
  refine g_callVp (Y := YX7_isDone) sv_X7_168 rfl yn_X7_isDone 9 (by decide) rfl rfl dX7_whyNot_16 (k_isDone h hI hc pR_ok) h.1 rfl rfl rfl (Nat.le_of_ble_eq_true rfl) ⟨rfl, rfl⟩ ?_
  refine g_if_eq (tgt := 30) dX7_whyNot_19 (by decide) (fun b2 => ?_) (fun b2 => ?_)
  rotate_left
  · rw [if_pos (bi_ne b2)] at hP
    refine g_sipush (v := nI 600) dX7_whyNot_22 (by decide) ?_
    refine g_iload_n dX7_whyNot_25 rfl ?_
    refine g_iadd dX7_whyNot_26 ?_
    refine g_jump (tgt := 43) dX7_whyNot_27 (by decide) ?_
    exact g_iret rfl (nr_int _) dX7_whyNot_43 (by decide) hP
  rw [if_neg (bi_eq b2)] at hP
  refine g_aload_n dX7_whyNot_30 rfl ?_
  refine g_iload_n dX7_whyNot_31 rfl ?_
  refine g_aload_n dX7_whyNot_32 rfl ?_
  refine g_iload_n dX7_whyNot_33 rfl ?_
  refine g_iconst (v := nI 2) dX7_whyNot_34 (by decide) ?_
  refine g_callVp (Y := YX7_convoy1) sv_X7_81 rfl yn_X7_convoy1 9 (by decide) rfl rfl dX7_whyNot_35 (k_convoy1 h (c := c) (k := 2) (by omega) (by decide) pR_ok) h.1 rfl rfl rfl (Nat.le_of_ble_eq_true rfl) ⟨rfl, rfl⟩ ?_
  refine g_iconst (v := nI 1) dX7_whyNot_38 (by decide) ?_
  refine g_iadd dX7_whyNot_39 ?_
  refine g_callVp (Y := YX7_barred) sv_X7_159 rfl yn_X7_barred 9 (by decide) rfl rfl dX7_whyNot_40 (k_barred h hI hc pR_ok) h.1 rfl rfl rfl (Nat.le_of_ble_eq_true rfl) ⟨rfl, rfl⟩ ?_
  exact g_iret rfl (nr_int _) dX7_whyNot_43 (by decide) hP
theorem row_pos (hI : InvB f) {k : Nat} (hk : k < 10) : (0 < f (oR k) ↔ ¬ f (oR k) = 0) := by
  rcases hI.2.2.2.2.1 k hk with q | ⟨-, ⟨w, h1, h2, ew⟩, -⟩
  · rw [q]
    exact ⟨fun z => absurd z (by decide), fun z => absurd rfl z⟩
  · have ew : f (oR k) = nI w := ew
    rw [ew]
    exact ⟨fun _ => nI_ne0 (by omega) (by omega), fun _ => nI_lt (a := 0) (by omega) (by omega)⟩
theorem k_inRows (h : SA sh V m f) (hI : InvB f) (hP : P (.inl (some (.int (sI (fun k => bi (¬ f (oR k) = 0)) 10)))) sh sz V) : MC E YX7_inRows [.ref m] sh sz V P := by
  refine MC.of RX7 "inRows" rfl (by decide +kernel) rfl 2 [_, none, none] rfl (Nat.le_of_ble_eq_true rfl) ?_
  show G E MX7_inRows _ _ _ _ _ _ _ _ _
  refine g_iconst (v := nI 0) dX7_inRows_0 (by decide) ?_
  refine g_istore_n dX7_inRows_1 (by decide) rfl ?_
  show G _ _ _ _ _ _ _ _ _ [_, _, _] _
  refine g_iconst (v := nI 0) dX7_inRows_2 (by decide) ?_
  refine g_istore_n dX7_inRows_3 (by decide) rfl ?_
  show G _ _ _ _ _ _ _ _ _ [_, _, _] _
  suffices K : ∀ (d i : Nat), i + d = 10 → G E MX7_inRows P sh sz V 0 0 4 [some (.ref m), some (.int (sI (fun k => bi (¬ f (oR k) = 0)) i)), some (.int (nI i))] [] from K 10 0 rfl
  intro d
  induction d with
  | zero =>
    intro i hi
    have hi : i = 10 := by omega
    subst hi
    refine g_iload_n dX7_inRows_4 rfl ?_
    refine g_bipush (v := nI 10) dX7_inRows_5 (by decide) ?_
    refine g_icmp_ge (tgt := 38) dX7_inRows_7 (by decide) (fun _ => ?_) (fun hq => absurd (Int32.le_refl _) hq)
    refine g_iload_n dX7_inRows_38 rfl ?_
    exact g_iret rfl (nr_int _) dX7_inRows_39 (by decide) hP
  | succ d ih =>
    intro i hi
    have ih := ih (i + 1) (by omega)
    have hp := row_pos hI (k := i) (by omega)
    rw [sI_succ] at ih
    refine g_iload_n dX7_inRows_4 rfl ?_
    refine g_bipush (v := nI 10) dX7_inRows_5 (by decide) ?_
    refine g_icmp_ge (tgt := 38) dX7_inRows_7 (by decide) (fun hq => absurd hq (nI_ge (by omega) (by omega))) (fun _ => ?_)
    refine g_iload_n dX7_inRows_10 rfl ?_
    refine g_aload_n dX7_inRows_11 rfl ?_
    refine g_get 9 rfl (by decide) inX7 0 (by decide) fl_X7_9 dX7_inRows_12 h.1 h.2.2.1 ?_
    refine g_bipush (v := nI 80) dX7_inRows_15 (by decide) ?_
    refine g_iconst (v := nI 2) dX7_inRows_17 (by decide) ?_
    refine g_iload_n dX7_inRows_18 rfl ?_
    refine g_imul dX7_inRows_19 ?_
    refine g_iadd dX7_inRows_20 ?_
    rw [pk_mul, nI_add]
    refine g_iaload dX7_inRows_21 h.2.1 (vp_in_nI (by omega) (by decide)) (h.rd (k := 80 + 2 * i) (by omega)) ?_
    refine g_if_le (tgt := 29) dX7_inRows_22 (by decide) (fun b1 => ?_) (fun b1 => ?_)
    · rw [bi_f (fun q => absurd (hp.mpr q) (Int32.not_lt.mpr b1))] at ih
      refine g_iconst (v := nI 0) dX7_inRows_29 (by decide) ?_
      refine g_iadd dX7_inRows_30 ?_
      refine g_istore_n dX7_inRows_31 (by decide) rfl ?_
      show G _ _ _ _ _ _ _ _ _ [_, _, _] _
      refine g_iinc dX7_inRows_32 rfl (by first | exact nI_inc _ | rfl) (by decide) rfl ?_
      show G _ _ _ _ _ _ _ _ _ [_, _, _] _
      refine g_jump (tgt := 4) dX7_inRows_35 (by decide) ?_
      exact ih
    · rw [bi_t (hp.mp (Int32.not_le.mp b1))] at ih
      refine g_iconst (v := nI 1) dX7_inRows_25 (by decide) ?_
      refine g_jump (tgt := 30) dX7_inRows_26 (by decide) ?_
      refine g_iadd dX7_inRows_30 ?_
      refine g_istore_n dX7_inRows_31 (by decide) rfl ?_
      show G _ _ _ _ _ _ _ _ _ [_, _, _] _
      refine g_iinc dX7_inRows_32 rfl (by first | exact nI_inc _ | rfl) (by decide) rfl ?_
      show G _ _ _ _ _ _ _ _ _ [_, _, _] _
      refine g_jump (tgt := 4) dX7_inRows_35 (by decide) ?_
      exact ih
theorem k_allCracks (h : SA sh V m f) (hP : P (.inl (some (.int (sI (fun j => f (oM j 1)) 12)))) sh sz V) : MC E YX7_allCracks [.ref m] sh sz V P := by
  refine MC.of RX7 "allCracks" rfl (by decide +kernel) rfl 2 [_, none, none] rfl (Nat.le_of_ble_eq_true rfl) ?_
  show G E MX7_allCracks _ _ _ _ _ _ _ _ _
  refine g_iconst (v := nI 0) dX7_allCracks_0 (by decide) ?_
  refine g_istore_n dX7_allCracks_1 (by decide) rfl ?_
  show G _ _ _ _ _ _ _ _ _ [_, _, _] _
  refine g_iconst (v := nI 0) dX7_allCracks_2 (by decide) ?_
  refine g_istore_n dX7_allCracks_3 (by decide) rfl ?_
  show G _ _ _ _ _ _ _ _ _ [_, _, _] _
  suffices K : ∀ (d i : Nat), i + d = 12 → G E MX7_allCracks P sh sz V 0 0 4 [some (.ref m), some (.int (sI (fun j => f (oM j 1)) i)), some (.int (nI i))] [] from K 12 0 rfl
  intro d
  induction d with
  | zero =>
    intro i hi
    have hi : i = 12 := by omega
    subst hi
    refine g_iload_n dX7_allCracks_4 rfl ?_
    refine g_bipush (v := nI 12) dX7_allCracks_5 (by decide) ?_
    refine g_icmp_ge (tgt := 25) dX7_allCracks_7 (by decide) (fun _ => ?_) (fun hq => absurd (Int32.le_refl _) hq)
    refine g_iload_n dX7_allCracks_25 rfl ?_
    exact g_iret rfl (nr_int _) dX7_allCracks_26 (by decide) hP
  | succ d ih =>
    intro i hi
    have ih := ih (i + 1) (by omega)
    rw [sI_succ] at ih
    refine g_iload_n dX7_allCracks_4 rfl ?_
    refine g_bipush (v := nI 12) dX7_allCracks_5 (by decide) ?_
    refine g_icmp_ge (tgt := 25) dX7_allCracks_7 (by decide) (fun hq => absurd hq (nI_ge (by omega) (by omega))) (fun _ => ?_)
    refine g_iload_n dX7_allCracks_10 rfl ?_
    refine g_aload_n dX7_allCracks_11 rfl ?_
    refine g_iload_n dX7_allCracks_12 rfl ?_
    refine g_iconst (v := nI 1) dX7_allCracks_13 (by decide) ?_
    refine g_callVp (Y := YX7_get) sv_X7_67 rfl yn_X7_get 9 (by decide) rfl rfl dX7_allCracks_14 (k_get h (j := i) (k := 1) (by omega) (by decide) pR_ok) h.1 rfl rfl rfl (Nat.le_of_ble_eq_true rfl) ⟨rfl, rfl⟩ ?_
    refine g_iadd dX7_allCracks_17 ?_
    refine g_istore_n dX7_allCracks_18 (by decide) rfl ?_
    show G _ _ _ _ _ _ _ _ _ [_, _, _] _
    refine g_iinc dX7_allCracks_19 rfl (by first | exact nI_inc _ | rfl) (by decide) rfl ?_
    show G _ _ _ _ _ _ _ _ _ [_, _, _] _
    refine g_jump (tgt := 4) dX7_allCracks_22 (by decide) ?_
    exact ih
end REF3

