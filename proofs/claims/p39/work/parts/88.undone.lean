/-! the law's undoing: the seven changes, and back -/
section UNDN2
variable {E : gE} {sh : Sh} {sz : Nat} {V : Vl} {x N : Nat} {S : St} {A : La}
theorem upd_funL (th : Nat → Int64) (k : Nat) (v : Int64) : updV (fun m => Value.long (th m)) k (.long v) = fun m => Value.long (if m = k then v else th m) := by
  funext m
  by_cases h : m = k
  · simp [updV, h]
  · simp [updV, h]
theorem nI_prd (x : Int32) : x + Int32.ofInt (-1) = x - nI 1 := by
  rw [Int32.sub_eq_add_neg]
  exact congrArg (x + ·) (by decide)
theorem Stk.chg {rs rs' : Nat → Fl} {k : Nat} (h : Stk rs k S) (e : ∀ m, m < k → rs' m = rs m) : Stk rs' k S := ⟨h.1, fun i hi => (h.2 i hi).trans (e _ (by omega)).symm⟩
theorem Stk.same {S' : St} {rs : Nat → Fl} {k : Nat} (h : Stk rs k S) (e1 : S'.2.2.1 = S.2.2.1) (e2 : S'.2.2.2.1 = S.2.2.2.1) : Stk rs k S' := by
  obtain ⟨a, b⟩ := h
  unfold Stk
  rw [e1, e2]
  exact ⟨a, b⟩
set_option maxRecDepth 100000 in
theorem l_undone (hA : LW x S A sh sz V) (hlen : E.2.2.2.2.2.2.1 ≤ 260) (hl : S.2.2.2.2.2.1 = 0) (hD : InvD N S.1) (hN : N ≤ 100000) : MC E YL_undone [.ref E.2.2.2.2.2.1, .ref x] sh sz V (PLx x A sz (fun _ v => v = .int (nI 1))) := by
  obtain ⟨t, ht⟩ : ∃ t, t = sz := ⟨_, rfl⟩
  have hfr : ∀ q ∈ A, q.1 ≠ t := fun q hq => by rw [ht]; exact Nat.ne_of_lt (hA.2.2.2.2 q hq).2.1
  have hsub : ∀ {S sh sz V t q F}, LW x S ((t, q, F) :: A) sh sz V → LW x S A sh sz V := fun h => h.sub (fun q hq => List.mem_cons_of_mem _ hq)
  have K490 : ∀ (j e : Nat), e + j ≤ 7 → ∀ (rs : Nat → Fl) (F : Nat → Int64) S', Stk rs j S' → S'.2.2.2.1 ≤ 8 → (∀ m, m < j → F m = sumF (rs m)) → ∀ (i3 : Int32) a5 a6, GL E ML_undone (PLx x A sz (fun _ v => v = .int (nI 1))) x S' ((t, (22, 9), fun m => .long (F m)) :: A) sz (5100 + 310 * e) 490 [some (.ref E.2.2.2.2.2.1), some (.ref x), some (.ref t), some (.int i3), some (.int (nI j - nI 1)), a5, a6] [] := by
    intro j
    induction j with
    | zero =>
      intro e he rs F S' hs h8 hF i3 a5 a6 sh sz V cu su hA hb
      refine g_iload dL_undone_490 rfl ?_
      refine g_if_lt (tgt := 522) dL_undone_492 (by decide) (fun _ => ?_) (fun hq => absurd (by decide) hq)
      refine g_iconst (v := nI 1) dL_undone_522 (by decide) ?_
      exact g_iret rfl nz1 dL_undone_523 ⟨by show cu ≤ 9000; omega, by show su ≤ 54000; omega⟩ ⟨hb.1, _, _, hsub hA, rfl, rfl⟩
    | succ j ih =>
      intro e he rs F S' hs h8 hF i3 a5 a6 sh sz V cu su hA hb
      obtain ⟨n1, n2, n3⟩ := Stk_und hs
      rw [pk_sub (by omega), Nat.add_sub_cancel]
      refine g_iload dL_undone_490 rfl ?_
      refine g_if_lt (tgt := 522) dL_undone_492 (by decide) (fun hq => absurd hq (nI_pos (by omega))) (fun _ => ?_)
      refine g_aload_n dL_undone_495 rfl ?_
      refine g_lcH 1 (M := ML_undone) (pc := 496) (Y := YL_undo) (gIn_SH ml_L_247 wt_L_undo ini_L wc_L_undo) yn_L_undo dL_undone_496 hb (lRm_of rfl (rm_c (by show _ ≤ 9000; omega) (Nat.le_of_ble_eq_true rfl))) (l_undo hA n1) rfl rfl (Nat.le_of_ble_eq_true rfl) ?_
      intro sh sz V cu su hA hb
      refine g_if_lt (tgt := 514) dL_undone_499 (by decide) (fun hq => absurd hq (nI_pos (by omega))) (fun _ => ?_)
      refine g_aload_n dL_undone_502 rfl ?_
      refine g_lcS 300 (M := ML_undone) (pc := 503) (Y := YL_sum) ss_L_274 yn_L_sum dL_undone_503 hb (lRm_of rfl (rm_c (by show _ ≤ 9000; omega) (Nat.le_of_ble_eq_true rfl))) (l_sumC hA) rfl rfl (Nat.le_of_ble_eq_true rfl) ?_
      intro sh sz V cu su hA hb
      refine g_aload_n dL_undone_506 rfl ?_
      refine g_iload dL_undone_507 rfl ?_
      refine g_laload dL_undone_509 hA.arr.1 (vp_in_nI (by omega) (by decide)) (show V t (nI j).toNatClampNeg = .long (F j) by rw [hA.arr.2, nI_clamp (by omega)]) ?_
      refine g_lcmp dL_undone_510 ?_
      refine g_if_eq (tgt := 516) dL_undone_511 (by decide) (fun _ => ?_) (fun hq => absurd (((lg_cmp_eq _ _).mpr (by rw [hF j (by omega), n2]))) hq)
      refine g_iinc dL_undone_516 rfl (nI_prd _) (by decide) rfl ?_
      show G _ _ _ _ _ _ _ _ _ [_, _, _, _, _, _, _] _
      refine g_jump (tgt := 490) dL_undone_519 (by decide) ?_
      exact (ih (e + 1) (by omega) rs F _ n3 (by show S'.2.2.2.1 - 1 ≤ 8; omega) (fun m hm => hF m (by omega)) _ _ _).go hA hb (by omega)
  have K10 : ∀ (d i : Nat), i + d = 7 → ∀ (k : Nat) (rs : Nat → Fl) (F : Nat → Int64) S', k ≤ i → Stk rs k S' → InvD (N + 1000 * i) S'.1 → S'.2.2.2.2.2.1 = 0 → (∀ m, m < k → F m = sumF (rs m)) → ∀ a5 a6, GL E ML_undone (PLx x A sz (fun _ v => v = .int (nI 1))) x S' ((t, (22, 9), fun m => .long (F m)) :: A) sz (2 + 725 * i) 10 [some (.ref E.2.2.2.2.2.1), some (.ref x), some (.ref t), some (.int (nI k)), some (.int (nI i)), a5, a6] [] := by
    intro d
    induction d with
    | zero =>
      intro i hi k rs F S' hk hs hD hl hF a5 a6 sh sz V cu su hA hb
      obtain rfl : i = 7 := by omega
      have h8 := hA.2.1.2.2.2.1
      refine g_iload dL_undone_10 rfl ?_
      refine g_bipush (v := nI 7) dL_undone_12 (by decide) ?_
      refine g_icmp_ge (tgt := 485) dL_undone_14 (by decide) (fun _ => ?_) (fun hq => absurd (Int32.le_refl _) hq)
      refine g_iload_n dL_undone_485 rfl ?_
      refine g_iconst (v := nI 1) dL_undone_486 (by decide) ?_
      refine g_isub dL_undone_487 ?_
      refine g_istore dL_undone_488 (by decide) rfl ?_
      show G _ _ _ _ _ _ _ _ _ [_, _, _, _, _, _, _] _
      exact (K490 k 0 (by omega) rs F S' hs h8 hF _ _ _).go hA hb (by omega)
    | succ d ih =>
      intro i hi k rs F S' hk hs hD hl hF a5 a6
      obtain ⟨n, hn, en⟩ := ushr_n (clV E (47 + i)) (k := 1) (by decide) (by decide)
      have hDN : N + 1000 * i ≤ 900000 := by omega
      obtain ⟨F', hF'⟩ : ∃ F' : Nat → Int64, F' = fun m => if m = k then sumF S'.1 else F m := ⟨_, rfl⟩
      have hFk : F' k = sumF S'.1 := by rw [hF']; exact if_pos rfl
      have hFo : ∀ m, m < k → F' m = sumF (rs m) := fun m hm => by
        rw [hF']
        show (if m = k then sumF S'.1 else F m) = _
        rw [if_neg (by omega)]
        exact hF m hm
      have J448 : S'.2.2.2.1 ≤ 8 → ∀ S2 (b : Prop) (v : Int32), Und (N + 1000 * i) S' S2 b → ((b ∧ v = nI 1) ∨ (¬ b ∧ v = nI 0)) → GL E ML_undone (PLx x A sz (fun _ v => v = .int (nI 1))) x S2 ((t, (22, 9), fun m => .long (F' m)) :: A) sz (2 + 725 * i + 420) 448 [some (.ref E.2.2.2.2.2.1), some (.ref x), some (.ref t), some (.int (nI k)), some (.int (nI i)), some (.int (nI n)), some (.int v)] [] := by
        intro h8 S2 b v hU hv sh sz V cu su hA hb
        obtain ⟨u1, u2, hU⟩ := hU
        rcases hv with ⟨hbb, rfl⟩ | ⟨hbb, rfl⟩
        · rcases hU with ⟨-, u3, u4⟩ | ⟨q, -⟩
          · refine g_iload dL_undone_448 rfl ?_
            refine g_if_ne (tgt := 466) dL_undone_450 (by decide) (fun _ => ?_) (fun hq => absurd hq (by decide))
            refine g_iload_n dL_undone_466 rfl ?_
            refine g_iload dL_undone_467 rfl ?_
            refine g_if_eq (tgt := 476) dL_undone_469 (by decide) (fun hq => absurd hq (by decide)) (fun _ => ?_)
            refine g_iconst (v := nI 1) dL_undone_472 (by decide) ?_
            refine g_jump (tgt := 477) dL_undone_473 (by decide) ?_
            refine g_iadd dL_undone_477 ?_
            rw [nI_add]
            refine g_istore_n dL_undone_478 (by decide) rfl ?_
            show G _ _ _ _ _ _ _ _ _ [_, _, _, _, _, _, _] _
            refine g_iinc dL_undone_479 rfl (by first | exact nI_inc _ | rfl) (by decide) rfl ?_
            show G _ _ _ _ _ _ _ _ _ [_, _, _, _, _, _, _] _
            refine g_jump (tgt := 10) dL_undone_482 (by decide) ?_
            refine (ih (i + 1) (by omega) (k + 1) (fun m => if m = k then S'.1 else rs m) F' S2 (by omega) (Stk_gen (hs.chg (fun m hm => if_neg (by omega))) (by omega) h8 (if_pos rfl) u3 u4) (u2.le (by omega)) u1 (fun m hm => ?_) _ _).go hA hb (by omega)
            by_cases z : m = k
            · rw [if_pos z, z]
              exact hFk
            · rw [if_neg z]
              exact hFo m (by omega)
          · exact absurd hbb q
        · rcases hU with ⟨q, -⟩ | ⟨-, u3, u4, u5⟩
          · exact absurd q hbb
          · refine g_iload dL_undone_448 rfl ?_
            refine g_if_ne (tgt := 466) dL_undone_450 (by decide) (fun hq => absurd hq (fun q => q rfl)) (fun _ => ?_)
            refine g_aload_n dL_undone_453 rfl ?_
            refine g_lcS 300 (M := ML_undone) (pc := 454) (Y := YL_sum) ss_L_274 yn_L_sum dL_undone_454 hb (lRm_of rfl (rm_c (by show _ ≤ 9000; omega) (Nat.le_of_ble_eq_true rfl))) (l_sumC hA) rfl rfl (Nat.le_of_ble_eq_true rfl) ?_
            intro sh sz V cu su hA hb
            refine g_aload_n dL_undone_457 rfl ?_
            refine g_iload_n dL_undone_458 rfl ?_
            refine g_laload dL_undone_459 hA.arr.1 (vp_in_nI (by omega) (by decide)) (show V t (nI k).toNatClampNeg = .long (F' k) by rw [hA.arr.2, nI_clamp (by omega)]) ?_
            refine g_lcmp dL_undone_460 ?_
            refine g_if_eq (tgt := 466) dL_undone_461 (by decide) (fun _ => ?_) (fun hq => absurd (((lg_cmp_eq _ _).mpr (by rw [hFk, u3]))) hq)
            refine g_iload_n dL_undone_466 rfl ?_
            refine g_iload dL_undone_467 rfl ?_
            refine g_if_eq (tgt := 476) dL_undone_469 (by decide) (fun _ => ?_) (fun hq => absurd (rfl) hq)
            refine g_iconst (v := nI 0) dL_undone_476 (by decide) ?_
            refine g_iadd dL_undone_477 ?_
            rw [add_nI0]
            refine g_istore_n dL_undone_478 (by decide) rfl ?_
            show G _ _ _ _ _ _ _ _ _ [_, _, _, _, _, _, _] _
            refine g_iinc dL_undone_479 rfl (by first | exact nI_inc _ | rfl) (by decide) rfl ?_
            show G _ _ _ _ _ _ _ _ _ [_, _, _, _, _, _, _] _
            refine g_jump (tgt := 10) dL_undone_482 (by decide) ?_
            exact (ih (i + 1) (by omega) k rs F' S2 (by omega) (hs.same u4 u5) (u2.le (by omega)) u1 hFo _ _).go hA hb (by omega)
      intro sh sz V cu su hA hb
      have J448 := J448 hA.2.1.2.2.2.1
      refine g_iload dL_undone_10 rfl ?_
      refine g_bipush (v := nI 7) dL_undone_12 (by decide) ?_
      refine g_icmp_ge (tgt := 485) dL_undone_14 (by decide) (fun hq => absurd hq (nI_ge (by omega) (by decide))) (fun _ => ?_)
      refine g_aload_n dL_undone_17 rfl ?_
      refine g_bipush (v := nI 47) dL_undone_18 (by decide) ?_
      refine g_iload dL_undone_20 rfl ?_
      refine g_iadd dL_undone_22 ?_
      rw [nI_add]
      refine g_lcP (M := ML_undone) (pc := 23) (Y := YL_cell) ss_L_125 yn_L_cell dL_undone_23 hb (lRm_of rfl (rm_c (by show _ ≤ 9000; omega) (Nat.le_of_ble_eq_true rfl))) (c_cell (k := 47 + i) (by omega) hlen) rfl rfl (Nat.le_of_ble_eq_true rfl) ?_
      refine g_iconst (v := nI 1) dL_undone_26 (by decide) ?_
      refine g_iushr dL_undone_27 rfl ?_
      rw [en]
      refine g_istore dL_undone_28 (by decide) rfl ?_
      show G _ _ _ _ _ _ _ _ _ [_, _, _, _, _, _, _] _
      refine g_aload_n dL_undone_30 rfl ?_
      refine g_iload_n dL_undone_31 rfl ?_
      refine g_aload_n dL_undone_32 rfl ?_
      refine g_lcS 300 (M := ML_undone) (pc := 33) (Y := YL_sum) ss_L_274 yn_L_sum dL_undone_33 hb (lRm_of rfl (rm_c (by show _ ≤ 9000; omega) (Nat.le_of_ble_eq_true rfl))) (l_sumC hA) rfl rfl (Nat.le_of_ble_eq_true rfl) ?_
      intro sh sz V cu su hA hb
      refine g_lastore dL_undone_36 hA.arr.1 (vp_in_nI (by omega) (by decide)) ?_
      rw [nI_clamp (by omega)]
      have hA := hA.put (k := k) (v := .long (sumF S'.1)) hfr (by show ¬ 22 = 8; decide)
      rw [upd_funL, show (fun m => Value.long (if m = k then sumF S'.1 else F m)) = (fun m => Value.long (F' m)) by rw [hF']] at hA
      refine g_iload dL_undone_37 rfl ?_
      refine g_bipush (v := nI 10) dL_undone_39 (by decide) ?_
      refine g_irem dL_undone_41 (by decide) ?_
      rw [rem_nI hn (by decide) (by decide)]
      rcases (show n % 10 = 0 ∨ n % 10 = 1 ∨ n % 10 = 2 ∨ n % 10 = 3 ∨ n % 10 = 4 ∨ n % 10 = 5 ∨ n % 10 = 6 ∨ n % 10 = 7 ∨ n % 10 = 8 ∨ n % 10 = 9 by omega) with hq | hq | hq | hq | hq | hq | hq | hq | hq | hq
      all_goals rw [hq]
      · refine g_tableIn (off := 50) (tgt := 92) dL_undone_42 (by decide) (by decide) (by decide +kernel) (by decide) ?_
        refine g_aload_n dL_undone_92 rfl ?_
        refine g_iload dL_undone_93 rfl ?_
        refine g_iconst (v := nI 4) dL_undone_95 (by decide) ?_
        refine g_iushr dL_undone_96 rfl ?_
        refine g_iconst (v := nI 4) dL_undone_97 (by decide) ?_
        refine g_irem dL_undone_98 (by decide) ?_
        refine g_iload dL_undone_99 rfl ?_
        refine g_bipush (v := nI 8) dL_undone_101 (by decide) ?_
        refine g_iushr dL_undone_103 rfl ?_
        refine g_bipush (v := nI 60) dL_undone_104 (by decide) ?_
        refine g_irem dL_undone_106 (by decide) ?_
        refine g_bipush (v := nI 42) dL_undone_107 (by decide) ?_
        refine g_isub dL_undone_109 ?_
        refine g_uset hA hl hD hDN hb (by omega) (fun S2 zz hU sh sz V cu su hA hb => ?_)
        refine g_bipush (v := (-101)) dL_undone_113 (by decide) ?_
        refine g_icmp_le (tgt := 122) dL_undone_115 (by decide) (fun b1 => ?_) (fun b1 => ?_)
        · refine g_iconst (v := nI 0) dL_undone_122 (by decide) ?_
          refine g_istore dL_undone_123 (by decide) rfl ?_
          show G _ _ _ _ _ _ _ _ _ [_, _, _, _, _, _, _] _
          refine g_jump (tgt := 448) dL_undone_125 (by decide) ?_
          exact (J448 S2 _ _ hU (Or.inr ⟨fun q => q b1, rfl⟩)).go hA hb (by omega)
        · refine g_iconst (v := nI 1) dL_undone_118 (by decide) ?_
          refine g_jump (tgt := 123) dL_undone_119 (by decide) ?_
          refine g_istore dL_undone_123 (by decide) rfl ?_
          show G _ _ _ _ _ _ _ _ _ [_, _, _, _, _, _, _] _
          refine g_jump (tgt := 448) dL_undone_125 (by decide) ?_
          exact (J448 S2 _ _ hU (Or.inl ⟨b1, rfl⟩)).go hA hb (by omega)
      · refine g_tableIn (off := 86) (tgt := 128) dL_undone_42 (by decide) (by decide) (by decide +kernel) (by decide) ?_
        refine g_aload_n dL_undone_128 rfl ?_
        refine g_iload dL_undone_129 rfl ?_
        refine g_iconst (v := nI 4) dL_undone_131 (by decide) ?_
        refine g_iushr dL_undone_132 rfl ?_
        refine g_bipush (v := nI 13) dL_undone_133 (by decide) ?_
        refine g_irem dL_undone_135 (by decide) ?_
        refine g_udrill hA hl hD hDN hb (by omega) (fun S2 zz hU sh sz V cu su hA hb => ?_)
        refine g_iconst (v := (-1)) dL_undone_139 (by decide) ?_
        refine g_icmp_eq (tgt := 147) dL_undone_140 (by decide) (fun b1 => ?_) (fun b1 => ?_)
        · refine g_iconst (v := nI 0) dL_undone_147 (by decide) ?_
          refine g_istore dL_undone_148 (by decide) rfl ?_
          show G _ _ _ _ _ _ _ _ _ [_, _, _, _, _, _, _] _
          refine g_jump (tgt := 448) dL_undone_150 (by decide) ?_
          exact (J448 S2 _ _ hU (Or.inr ⟨fun q => q b1, rfl⟩)).go hA hb (by omega)
        · refine g_iconst (v := nI 1) dL_undone_143 (by decide) ?_
          refine g_jump (tgt := 148) dL_undone_144 (by decide) ?_
          refine g_istore dL_undone_148 (by decide) rfl ?_
          show G _ _ _ _ _ _ _ _ _ [_, _, _, _, _, _, _] _
          refine g_jump (tgt := 448) dL_undone_150 (by decide) ?_
          exact (J448 S2 _ _ hU (Or.inl ⟨b1, rfl⟩)).go hA hb (by omega)
      · refine g_tableIn (off := 111) (tgt := 153) dL_undone_42 (by decide) (by decide) (by decide +kernel) (by decide) ?_
        refine g_aload_n dL_undone_153 rfl ?_
        refine g_iload dL_undone_154 rfl ?_
        refine g_iconst (v := nI 4) dL_undone_156 (by decide) ?_
        refine g_iushr dL_undone_157 rfl ?_
        refine g_iconst (v := nI 2) dL_undone_158 (by decide) ?_
        refine g_irem dL_undone_159 (by decide) ?_
        refine g_iload dL_undone_160 rfl ?_
        refine g_bipush (v := nI 8) dL_undone_162 (by decide) ?_
        refine g_iushr dL_undone_164 rfl ?_
        refine g_bipush (v := nI 64) dL_undone_165 (by decide) ?_
        refine g_irem dL_undone_167 (by decide) ?_
        refine g_iload dL_undone_168 rfl ?_
        refine g_bipush (v := nI 14) dL_undone_170 (by decide) ?_
        refine g_iushr dL_undone_172 rfl ?_
        refine g_bipush (v := nI 8) dL_undone_173 (by decide) ?_
        refine g_irem dL_undone_175 (by decide) ?_
        refine g_iload dL_undone_176 rfl ?_
        refine g_bipush (v := nI 17) dL_undone_178 (by decide) ?_
        refine g_iushr dL_undone_180 rfl ?_
        refine g_iconst (v := nI 3) dL_undone_181 (by decide) ?_
        refine g_irem dL_undone_182 (by decide) ?_
        refine g_utruck hA hl hD hDN hb (by omega) (fun S2 zz hU sh sz V cu su hA hb => ?_)
        refine g_if_lt (tgt := 193) dL_undone_186 (by decide) (fun b1 => ?_) (fun b1 => ?_)
        · refine g_iconst (v := nI 0) dL_undone_193 (by decide) ?_
          refine g_istore dL_undone_194 (by decide) rfl ?_
          show G _ _ _ _ _ _ _ _ _ [_, _, _, _, _, _, _] _
          refine g_jump (tgt := 448) dL_undone_196 (by decide) ?_
          exact (J448 S2 _ _ hU (Or.inr ⟨fun q => q b1, rfl⟩)).go hA hb (by omega)
        · refine g_iconst (v := nI 1) dL_undone_189 (by decide) ?_
          refine g_jump (tgt := 194) dL_undone_190 (by decide) ?_
          refine g_istore dL_undone_194 (by decide) rfl ?_
          show G _ _ _ _ _ _ _ _ _ [_, _, _, _, _, _, _] _
          refine g_jump (tgt := 448) dL_undone_196 (by decide) ?_
          exact (J448 S2 _ _ hU (Or.inl ⟨b1, rfl⟩)).go hA hb (by omega)
      · refine g_tableIn (off := 157) (tgt := 199) dL_undone_42 (by decide) (by decide) (by decide +kernel) (by decide) ?_
        refine g_aload_n dL_undone_199 rfl ?_
        refine g_iload dL_undone_200 rfl ?_
        refine g_iconst (v := nI 4) dL_undone_202 (by decide) ?_
        refine g_iushr dL_undone_203 rfl ?_
        refine g_iconst (v := nI 5) dL_undone_204 (by decide) ?_
        refine g_irem dL_undone_205 (by decide) ?_
        refine g_uconvoy hA hl hD hDN hb (by omega) (fun S2 zz hU sh sz V cu su hA hb => ?_)
        refine g_if_lt (tgt := 216) dL_undone_209 (by decide) (fun b1 => ?_) (fun b1 => ?_)
        · refine g_iconst (v := nI 0) dL_undone_216 (by decide) ?_
          refine g_istore dL_undone_217 (by decide) rfl ?_
          show G _ _ _ _ _ _ _ _ _ [_, _, _, _, _, _, _] _
          refine g_jump (tgt := 448) dL_undone_219 (by decide) ?_
          exact (J448 S2 _ _ hU (Or.inr ⟨fun q => q b1, rfl⟩)).go hA hb (by omega)
        · refine g_iconst (v := nI 1) dL_undone_212 (by decide) ?_
          refine g_jump (tgt := 217) dL_undone_213 (by decide) ?_
          refine g_istore dL_undone_217 (by decide) rfl ?_
          show G _ _ _ _ _ _ _ _ _ [_, _, _, _, _, _, _] _
          refine g_jump (tgt := 448) dL_undone_219 (by decide) ?_
          exact (J448 S2 _ _ hU (Or.inl ⟨b1, rfl⟩)).go hA hb (by omega)
      · refine g_tableIn (off := 180) (tgt := 222) dL_undone_42 (by decide) (by decide) (by decide +kernel) (by decide) ?_
        refine g_aload_n dL_undone_222 rfl ?_
        refine g_iload dL_undone_223 rfl ?_
        refine g_iconst (v := nI 4) dL_undone_225 (by decide) ?_
        refine g_iushr dL_undone_226 rfl ?_
        refine g_iconst (v := nI 4) dL_undone_227 (by decide) ?_
        refine g_irem dL_undone_228 (by decide) ?_
        refine g_iload dL_undone_229 rfl ?_
        refine g_bipush (v := nI 8) dL_undone_231 (by decide) ?_
        refine g_iushr dL_undone_233 rfl ?_
        refine g_iconst (v := nI 2) dL_undone_234 (by decide) ?_
        refine g_irem dL_undone_235 (by decide) ?_
        refine g_iload dL_undone_236 rfl ?_
        refine g_bipush (v := nI 12) dL_undone_238 (by decide) ?_
        refine g_iushr dL_undone_240 rfl ?_
        refine g_iconst (v := nI 2) dL_undone_241 (by decide) ?_
        refine g_irem dL_undone_242 (by decide) ?_
        refine g_ujoin hA hl hD hDN hb (by omega) (fun S2 zz hU sh sz V cu su hA hb => ?_)
        refine g_if_lt (tgt := 253) dL_undone_246 (by decide) (fun b1 => ?_) (fun b1 => ?_)
        · refine g_iconst (v := nI 0) dL_undone_253 (by decide) ?_
          refine g_istore dL_undone_254 (by decide) rfl ?_
          show G _ _ _ _ _ _ _ _ _ [_, _, _, _, _, _, _] _
          refine g_jump (tgt := 448) dL_undone_256 (by decide) ?_
          exact (J448 S2 _ _ hU (Or.inr ⟨fun q => q b1, rfl⟩)).go hA hb (by omega)
        · refine g_iconst (v := nI 1) dL_undone_249 (by decide) ?_
          refine g_jump (tgt := 254) dL_undone_250 (by decide) ?_
          refine g_istore dL_undone_254 (by decide) rfl ?_
          show G _ _ _ _ _ _ _ _ _ [_, _, _, _, _, _, _] _
          refine g_jump (tgt := 448) dL_undone_256 (by decide) ?_
          exact (J448 S2 _ _ hU (Or.inl ⟨b1, rfl⟩)).go hA hb (by omega)
      · refine g_tableIn (off := 217) (tgt := 259) dL_undone_42 (by decide) (by decide) (by decide +kernel) (by decide) ?_
        refine g_aload_n dL_undone_259 rfl ?_
        refine g_iload dL_undone_260 rfl ?_
        refine g_iconst (v := nI 4) dL_undone_262 (by decide) ?_
        refine g_iushr dL_undone_263 rfl ?_
        refine g_iconst (v := nI 4) dL_undone_264 (by decide) ?_
        refine g_irem dL_undone_265 (by decide) ?_
        refine g_ustart hA hl hD hDN hb (by omega) (fun S2 zz hU sh sz V cu su hA hb => ?_)
        refine g_if_lt (tgt := 276) dL_undone_269 (by decide) (fun b1 => ?_) (fun b1 => ?_)
        · refine g_iconst (v := nI 0) dL_undone_276 (by decide) ?_
          refine g_istore dL_undone_277 (by decide) rfl ?_
          show G _ _ _ _ _ _ _ _ _ [_, _, _, _, _, _, _] _
          refine g_jump (tgt := 448) dL_undone_279 (by decide) ?_
          exact (J448 S2 _ _ hU (Or.inr ⟨fun q => q b1, rfl⟩)).go hA hb (by omega)
        · refine g_iconst (v := nI 1) dL_undone_272 (by decide) ?_
          refine g_jump (tgt := 277) dL_undone_273 (by decide) ?_
          refine g_istore dL_undone_277 (by decide) rfl ?_
          show G _ _ _ _ _ _ _ _ _ [_, _, _, _, _, _, _] _
          refine g_jump (tgt := 448) dL_undone_279 (by decide) ?_
          exact (J448 S2 _ _ hU (Or.inl ⟨b1, rfl⟩)).go hA hb (by omega)
      · refine g_tableIn (off := 240) (tgt := 282) dL_undone_42 (by decide) (by decide) (by decide +kernel) (by decide) ?_
        refine g_aload_n dL_undone_282 rfl ?_
        refine g_iload dL_undone_283 rfl ?_
        refine g_iconst (v := nI 4) dL_undone_285 (by decide) ?_
        refine g_iushr dL_undone_286 rfl ?_
        refine g_iconst (v := nI 4) dL_undone_287 (by decide) ?_
        refine g_irem dL_undone_288 (by decide) ?_
        refine g_uroll hA hl hD hDN hb (by omega) (fun S2 zz hU sh sz V cu su hA hb => ?_)
        refine g_if_lt (tgt := 299) dL_undone_292 (by decide) (fun b1 => ?_) (fun b1 => ?_)
        · refine g_iconst (v := nI 0) dL_undone_299 (by decide) ?_
          refine g_istore dL_undone_300 (by decide) rfl ?_
          show G _ _ _ _ _ _ _ _ _ [_, _, _, _, _, _, _] _
          refine g_jump (tgt := 448) dL_undone_302 (by decide) ?_
          exact (J448 S2 _ _ hU (Or.inr ⟨fun q => q b1, rfl⟩)).go hA hb (by omega)
        · refine g_iconst (v := nI 1) dL_undone_295 (by decide) ?_
          refine g_jump (tgt := 300) dL_undone_296 (by decide) ?_
          refine g_istore dL_undone_300 (by decide) rfl ?_
          show G _ _ _ _ _ _ _ _ _ [_, _, _, _, _, _, _] _
          refine g_jump (tgt := 448) dL_undone_302 (by decide) ?_
          exact (J448 S2 _ _ hU (Or.inl ⟨b1, rfl⟩)).go hA hb (by omega)
      · refine g_tableIn (off := 240) (tgt := 282) dL_undone_42 (by decide) (by decide) (by decide +kernel) (by decide) ?_
        refine g_aload_n dL_undone_282 rfl ?_
        refine g_iload dL_undone_283 rfl ?_
        refine g_iconst (v := nI 4) dL_undone_285 (by decide) ?_
        refine g_iushr dL_undone_286 rfl ?_
        refine g_iconst (v := nI 4) dL_undone_287 (by decide) ?_
        refine g_irem dL_undone_288 (by decide) ?_
        refine g_uroll hA hl hD hDN hb (by omega) (fun S2 zz hU sh sz V cu su hA hb => ?_)
        refine g_if_lt (tgt := 299) dL_undone_292 (by decide) (fun b1 => ?_) (fun b1 => ?_)
        · refine g_iconst (v := nI 0) dL_undone_299 (by decide) ?_
          refine g_istore dL_undone_300 (by decide) rfl ?_
          show G _ _ _ _ _ _ _ _ _ [_, _, _, _, _, _, _] _
          refine g_jump (tgt := 448) dL_undone_302 (by decide) ?_
          exact (J448 S2 _ _ hU (Or.inr ⟨fun q => q b1, rfl⟩)).go hA hb (by omega)
        · refine g_iconst (v := nI 1) dL_undone_295 (by decide) ?_
          refine g_jump (tgt := 300) dL_undone_296 (by decide) ?_
          refine g_istore dL_undone_300 (by decide) rfl ?_
          show G _ _ _ _ _ _ _ _ _ [_, _, _, _, _, _, _] _
          refine g_jump (tgt := 448) dL_undone_302 (by decide) ?_
          exact (J448 S2 _ _ hU (Or.inl ⟨b1, rfl⟩)).go hA hb (by omega)
      · refine g_tableIn (off := 263) (tgt := 305) dL_undone_42 (by decide) (by decide) (by decide +kernel) (by decide) ?_
        refine g_aload_n dL_undone_305 rfl ?_
        refine g_iload dL_undone_306 rfl ?_
        refine g_iconst (v := nI 4) dL_undone_308 (by decide) ?_
        refine g_iushr dL_undone_309 rfl ?_
        refine g_bipush (v := nI 32) dL_undone_310 (by decide) ?_
        refine g_irem dL_undone_312 (by decide) ?_
        refine g_upass hA hl hD hDN hb (by omega) (fun S2 zz hU sh sz V cu su hA hb => ?_)
        refine g_if_lt (tgt := 323) dL_undone_316 (by decide) (fun b1 => ?_) (fun b1 => ?_)
        · refine g_iconst (v := nI 0) dL_undone_323 (by decide) ?_
          refine g_istore dL_undone_324 (by decide) rfl ?_
          show G _ _ _ _ _ _ _ _ _ [_, _, _, _, _, _, _] _
          refine g_jump (tgt := 448) dL_undone_326 (by decide) ?_
          exact (J448 S2 _ _ hU (Or.inr ⟨fun q => q b1, rfl⟩)).go hA hb (by omega)
        · refine g_iconst (v := nI 1) dL_undone_319 (by decide) ?_
          refine g_jump (tgt := 324) dL_undone_320 (by decide) ?_
          refine g_istore dL_undone_324 (by decide) rfl ?_
          show G _ _ _ _ _ _ _ _ _ [_, _, _, _, _, _, _] _
          refine g_jump (tgt := 448) dL_undone_326 (by decide) ?_
          exact (J448 S2 _ _ hU (Or.inl ⟨b1, rfl⟩)).go hA hb (by omega)
      · refine g_tableOut (tgt := 329) dL_undone_42 (by decide) (by decide) ?_
        exact (ud_read (u := 2 + 725 * i + 300) hn hl hD (by omega) (fun S2 b v q1 q2 => (J448 S2 b v q1 q2).le (by omega))).go hA hb (by omega)
  subst ht
  refine MC.of RL "undone" rfl (by decide +kernel) rfl 5 [_, _, none, none, none, none, none] rfl (Nat.le_of_ble_eq_true rfl) ?_
  show G E ML_undone _ _ _ _ _ _ _ _ _
  have hA0 := hA.new (t := (22, 9)) (F := fun _ => defaultValue (gty 22))
  refine g_bipush (v := nI 9) dL_undone_0 (by decide) ?_
  refine g_newa 22 (atype := .long) rfl (by decide) (by decide) arr_long 9 (by decide) (by decide) (Nat.le_of_ble_eq_true rfl) dL_undone_2 ⟨Nat.le_of_ble_eq_true rfl, Nat.le_of_ble_eq_true rfl⟩ ?_
  refine g_astore_n dL_undone_4 (by decide) rfl ?_
  show G _ _ _ _ _ _ _ _ _ [_, _, _, _, _, _, _] _
  refine g_iconst (v := nI 0) dL_undone_5 (by decide) ?_
  refine g_istore_n dL_undone_6 (by decide) rfl ?_
  show G _ _ _ _ _ _ _ _ _ [_, _, _, _, _, _, _] _
  refine g_iconst (v := nI 0) dL_undone_7 (by decide) ?_
  refine g_istore dL_undone_8 (by decide) rfl ?_
  show G _ _ _ _ _ _ _ _ _ [_, _, _, _, _, _, _] _
  exact (K10 7 0 rfl 0 (fun _ => S.1) (fun _ => 0) S (Nat.le_refl _) (Stk_0 _ _) hD hl (fun m hm => absurd hm (Nat.not_lt_zero m)) _ _).go (u := 2) hA0 ⟨Nat.le_succ _, Nat.le_of_ble_eq_true rfl, Nat.le_of_ble_eq_true rfl⟩ (by omega)
end UNDN2

