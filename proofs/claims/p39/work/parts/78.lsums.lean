/-! the law's sums -/
section LSUMS
variable {E : gE} {sh : Sh} {sz : Nat} {V : Vl} {x : Nat} {S : St} {A : La}
theorem LW.arr {t : Nat} {q : Nat × Nat} {F : Nat → Value} (h : LW x S ((t, q, F) :: A) sh sz V) : sh t = q ∧ V t = F := (h.2.2.2.2 _ List.mem_cons_self).2.2
theorem upd_fun (th : Nat → Int32) (k : Nat) (v : Int32) : updV (fun m => Value.int (th m)) k (.int v) = fun m => Value.int (upd th k v m) := by
  funext m
  by_cases z : m = k
  · subst z
    rw [updV_self, pk_us]
  · rw [updV_ne _ _ z, pk_un z]
theorem row_pos {f : Fl} (hI : InvB f) {k : Nat} (hk : k < 10) : (0 < rowV f k 0 ↔ ¬ f (oR k) = 0) ∧ (if nI 0 < rowV f k 0 then rowV f k 0 else nI 0) = f (oR k) := by
  unfold rowV
  by_cases z : f (oR k) = 0
  · rw [if_pos z, z]
    exact ⟨⟨fun q => absurd q (by decide), fun q => absurd rfl q⟩, by decide⟩
  · rw [if_neg z, if_pos rfl]
    rcases hI.2.2.2.2.1 k hk with q | ⟨-, ⟨w, w1, w2, q⟩, -⟩
    · exact absurd q z
    · have q : f (oR k) = nI w := q
      rw [q]
      have h1 : nI 0 < nI w := nI_lt (by omega) (by omega)
      exact ⟨⟨fun _ => nI_ne0 (by omega) (by omega), fun _ => h1⟩, if_pos h1⟩
set_option maxRecDepth 100000 in
theorem l_sums (hA : LW x S A sh sz V) (hW : InvW S.1) : MC E YL_sums [.ref x] sh sz V (PLs x A sz S (.int (nI 1))) := by
  have hI := hA.sB
  have hIA := hA.2.1.1
  have hO := hIA.2.1
  have h44 := hI.1.2
  have hbr := BR_4 hIA hW
  have htw : TW S.1 (cnt S.1) = waitT S.1 := TW_wait hI
  have ht3 : S.1 3 = S.1 4 + waitT S.1 := hIA.2.2
  obtain ⟨t, ht⟩ : ∃ t, t = sz := ⟨sz, rfl⟩
  have hfr : ∀ q ∈ A, q.1 ≠ t := fun q hq => by rw [ht]; exact Nat.ne_of_lt (hA.2.2.2.2 q hq).2.1
  have hsub : ∀ {sh sz V t q F}, LW x S ((t, q, F) :: A) sh sz V → LW x S A sh sz V := fun h => h.sub (fun q hq => List.mem_cons_of_mem _ hq)
  have J544 : ∀ (th : Nat → Int32) (v : Int32), v = nI 1 → ∀ a9 a10 a11 a12 a13 a14 a15, GL E ML_sums (PLs x A sz S (.int (nI 1))) x S ((t, (20, 12), fun m => .int (th m)) :: A) sz (252) 544 [some (.ref x), some (.ref t), some (.int (sI (fun k => bi (¬ S.1 (oR k) = 0)) 10)), some (.int (TW S.1 (cnt S.1))), some (.int (sI (fun d => nI (arR S.1 d)) (cnt S.1))), some (.int (BR S.1 (cnt S.1))), some (.int (UN S.1 (cnt S.1))), some (.int (sI (fun d => bi (dnF S.1 d)) (cnt S.1))), some (.int (sI (fun d => nI (onR S.1 d)) (cnt S.1))), a9, a10, a11, a12, a13, a14, a15] [.int v] := by
    intro th v hv a9 a10 a11 a12 a13 a14 a15 sh sz V cu su hA hb
    subst hv
    refine g_istore dL_sums_544 (by decide) rfl ?_
    show G _ _ _ _ _ _ _ _ _ [_, _, _, _, _, _, _, _, _, _, _, _, _, _, _, _] _
    refine g_aload_n dL_sums_546 rfl ?_
    refine g_lcV 1 (M := ML_sums) (pc := 547) (Y := YX6_isWell) sv_L_237 rfl yn_X6_isWell 8 (by decide) rfl rfl dL_sums_547 hb (lRm_of rfl (rm_c (by show _ ≤ 320; omega) (Nat.le_of_ble_eq_true rfl))) (k_isWell hA) hA.s9 rfl rfl (Nat.le_of_ble_eq_true rfl) ?_
    intro sh sz V cu su hA hb
    refine g_if_eq (tgt := 646) dL_sums_550 (by decide) (fun hq => absurd hq ((by decide))) (fun _ => ?_)
    refine g_aload_n dL_sums_553 rfl ?_
    refine g_iconst (v := nI 1) dL_sums_554 (by decide) ?_
    refine g_lcV 1 (M := ML_sums) (pc := 555) (Y := YX6_account) sv_L_182 rfl yn_X6_account 8 (by decide) rfl rfl dL_sums_555 hb (lRm_of rfl (rm_c (by show _ ≤ 320; omega) (Nat.le_of_ble_eq_true rfl))) (k_account (w := 1) hA (by decide) rfl) hA.s9 rfl rfl (Nat.le_of_ble_eq_true rfl) ?_
    intro sh sz V cu su hA hb
    refine g_iload_n dL_sums_558 rfl ?_
    refine g_icmp_ne (tgt := 646) dL_sums_559 (by decide) (fun hq => absurd hq ((fun q => q rfl))) (fun _ => ?_)
    refine g_aload_n dL_sums_562 rfl ?_
    refine g_iconst (v := nI 3) dL_sums_563 (by decide) ?_
    refine g_lcV 1 (M := ML_sums) (pc := 564) (Y := YX6_account) sv_L_182 rfl yn_X6_account 8 (by decide) rfl rfl dL_sums_564 hb (lRm_of rfl (rm_c (by show _ ≤ 320; omega) (Nat.le_of_ble_eq_true rfl))) (k_account (w := 3) hA (by decide) (UN_eq _)) hA.s9 rfl rfl (Nat.le_of_ble_eq_true rfl) ?_
    intro sh sz V cu su hA hb
    refine g_iload dL_sums_567 rfl ?_
    refine g_icmp_ne (tgt := 646) dL_sums_569 (by decide) (fun hq => absurd hq ((fun q => q rfl))) (fun _ => ?_)
    refine g_aload_n dL_sums_572 rfl ?_
    refine g_iconst (v := nI 4) dL_sums_573 (by decide) ?_
    refine g_lcV 1 (M := ML_sums) (pc := 574) (Y := YX6_account) sv_L_182 rfl yn_X6_account 8 (by decide) rfl rfl dL_sums_574 hb (lRm_of rfl (rm_c (by show _ ≤ 320; omega) (Nat.le_of_ble_eq_true rfl))) (k_account (w := 4) hA (by decide) rfl) hA.s9 rfl rfl (Nat.le_of_ble_eq_true rfl) ?_
    intro sh sz V cu su hA hb
    refine g_iload dL_sums_577 rfl ?_
    refine g_icmp_ne (tgt := 646) dL_sums_579 (by decide) (fun hq => absurd hq ((fun q => q rfl))) (fun _ => ?_)
    refine g_aload_n dL_sums_582 rfl ?_
    refine g_iconst (v := nI 5) dL_sums_583 (by decide) ?_
    refine g_lcV 1 (M := ML_sums) (pc := 584) (Y := YX6_account) sv_L_182 rfl yn_X6_account 8 (by decide) rfl rfl dL_sums_584 hb (lRm_of rfl (rm_c (by show _ ≤ 320; omega) (Nat.le_of_ble_eq_true rfl))) (k_account (w := 5) hA (by decide) rfl) hA.s9 rfl rfl (Nat.le_of_ble_eq_true rfl) ?_
    intro sh sz V cu su hA hb
    refine g_iload dL_sums_587 rfl ?_
    refine g_icmp_ne (tgt := 646) dL_sums_589 (by decide) (fun hq => absurd hq ((fun q => q rfl))) (fun _ => ?_)
    refine g_aload_n dL_sums_592 rfl ?_
    refine g_bipush (v := nI 6) dL_sums_593 (by decide) ?_
    refine g_lcV 1 (M := ML_sums) (pc := 595) (Y := YX6_account) sv_L_182 rfl yn_X6_account 8 (by decide) rfl rfl dL_sums_595 hb (lRm_of rfl (rm_c (by show _ ≤ 320; omega) (Nat.le_of_ble_eq_true rfl))) (k_account (w := 6) hA (by decide) rfl) hA.s9 rfl rfl (Nat.le_of_ble_eq_true rfl) ?_
    intro sh sz V cu su hA hb
    refine g_iload dL_sums_598 rfl ?_
    refine g_icmp_ne (tgt := 646) dL_sums_600 (by decide) (fun hq => absurd hq ((fun q => q rfl))) (fun _ => ?_)
    refine g_aload_n dL_sums_603 rfl ?_
    refine g_bipush (v := nI 7) dL_sums_604 (by decide) ?_
    refine g_lcV 1 (M := ML_sums) (pc := 606) (Y := YX6_account) sv_L_182 rfl yn_X6_account 8 (by decide) rfl rfl dL_sums_606 hb (lRm_of rfl (rm_c (by show _ ≤ 320; omega) (Nat.le_of_ble_eq_true rfl))) (k_account (w := 7) hA (by decide) (v := BR S.1 (cnt S.1)) (by rw [hbr]; rfl)) hA.s9 rfl rfl (Nat.le_of_ble_eq_true rfl) ?_
    intro sh sz V cu su hA hb
    refine g_iload dL_sums_609 rfl ?_
    refine g_icmp_ne (tgt := 646) dL_sums_611 (by decide) (fun hq => absurd hq ((fun q => q rfl))) (fun _ => ?_)
    refine g_aload_n dL_sums_614 rfl ?_
    refine g_bipush (v := nI 8) dL_sums_615 (by decide) ?_
    refine g_lcV 1 (M := ML_sums) (pc := 617) (Y := YX6_account) sv_L_182 rfl yn_X6_account 8 (by decide) rfl rfl dL_sums_617 hb (lRm_of rfl (rm_c (by show _ ≤ 320; omega) (Nat.le_of_ble_eq_true rfl))) (k_account (w := 8) hA (by decide) (v := TW S.1 (cnt S.1)) (by rw [htw]; show S.1 3 - S.1 4 = _; rw [ht3, Int32.add_comm]; exact Int32.add_sub_cancel _ _)) hA.s9 rfl rfl (Nat.le_of_ble_eq_true rfl) ?_
    intro sh sz V cu su hA hb
    refine g_iload_n dL_sums_620 rfl ?_
    refine g_icmp_ne (tgt := 646) dL_sums_621 (by decide) (fun hq => absurd hq ((fun q => q rfl))) (fun _ => ?_)
    refine g_aload_n dL_sums_624 rfl ?_
    refine g_bipush (v := nI 12) dL_sums_625 (by decide) ?_
    refine g_lcV 1 (M := ML_sums) (pc := 627) (Y := YX6_account) sv_L_182 rfl yn_X6_account 8 (by decide) rfl rfl dL_sums_627 hb (lRm_of rfl (rm_c (by show _ ≤ 320; omega) (Nat.le_of_ble_eq_true rfl))) (k_account (w := 12) hA (by decide) (v := TW S.1 (cnt S.1) + BR S.1 (cnt S.1)) (by rw [htw, hbr]; show S.1 3 = _; rw [ht3, Int32.add_comm])) hA.s9 rfl rfl (Nat.le_of_ble_eq_true rfl) ?_
    intro sh sz V cu su hA hb
    refine g_iload_n dL_sums_630 rfl ?_
    refine g_iload dL_sums_631 rfl ?_
    refine g_iadd dL_sums_633 ?_
    refine g_icmp_ne (tgt := 646) dL_sums_634 (by decide) (fun hq => absurd hq ((fun q => q rfl))) (fun _ => ?_)
    refine g_iload dL_sums_637 rfl ?_
    refine g_if_eq (tgt := 646) dL_sums_639 (by decide) (fun hq => absurd hq ((by decide))) (fun _ => ?_)
    refine g_iconst (v := nI 1) dL_sums_642 (by decide) ?_
    refine g_jump (tgt := 647) dL_sums_643 (by decide) ?_
    exact g_iret rfl nz1 dL_sums_647 ⟨by show cu ≤ 320; omega, by show su ≤ 1920; omega⟩ ⟨hb.1, hsub hA, rfl⟩
  have J511 : ∀ (th : Nat → Int32), ∀ a9 a10 a11 a12 a13 a14 a15, GL E ML_sums (PLs x A sz S (.int (nI 1))) x S ((t, (20, 12), fun m => .int (th m)) :: A) sz (249) 511 [some (.ref x), some (.ref t), some (.int (sI (fun k => bi (¬ S.1 (oR k) = 0)) 10)), some (.int (TW S.1 (cnt S.1))), some (.int (sI (fun d => nI (arR S.1 d)) (cnt S.1))), some (.int (BR S.1 (cnt S.1))), some (.int (UN S.1 (cnt S.1))), some (.int (sI (fun d => bi (dnF S.1 d)) (cnt S.1))), some (.int (sI (fun d => nI (onR S.1 d)) (cnt S.1))), a9, a10, a11, a12, a13, a14, a15] [] := by
    intro th a9 a10 a11 a12 a13 a14 a15 sh sz V cu su hA hb
    refine g_aload_n dL_sums_511 rfl ?_
    refine g_bipush (v := nI 12) dL_sums_512 (by decide) ?_
    refine g_lcV 1 (M := ML_sums) (pc := 514) (Y := YX6_account) sv_L_182 rfl yn_X6_account 8 (by decide) rfl rfl dL_sums_514 hb (lRm_of rfl (rm_c (by show _ ≤ 320; omega) (Nat.le_of_ble_eq_true rfl))) (k_account (w := 12) hA (by decide) (v := S.1 3) rfl) hA.s9 rfl rfl (Nat.le_of_ble_eq_true rfl) ?_
    intro sh sz V cu su hA hb
    refine g_if_eq (tgt := 539) dL_sums_517 (by decide) (fun b1 => ?_) (fun b1 => ?_)
    · refine g_iconst (v := nI 1) dL_sums_539 (by decide) ?_
      refine g_jump (tgt := 544) dL_sums_540 (by decide) ?_
      exact (J544 _ _ rfl _ _ _ _ _ _ _).go hA hb (by omega)
    · refine g_aload_n dL_sums_520 rfl ?_
      refine g_lcV 1 (M := ML_sums) (pc := 521) (Y := YX6_share) sv_L_233 rfl yn_X6_share 8 (by decide) rfl rfl dL_sums_521 hb (lRm_of rfl (rm_c (by show _ ≤ 320; omega) (Nat.le_of_ble_eq_true rfl))) (k_share hA b1) hA.s9 rfl rfl (Nat.le_of_ble_eq_true rfl) ?_
      intro sh sz V cu su hA hb
      refine g_iload dL_sums_524 rfl ?_
      refine g_i2f dL_sums_526 ?_
      refine g_aload_n dL_sums_527 rfl ?_
      refine g_bipush (v := nI 12) dL_sums_528 (by decide) ?_
      refine g_lcV 1 (M := ML_sums) (pc := 530) (Y := YX6_account) sv_L_182 rfl yn_X6_account 8 (by decide) rfl rfl dL_sums_530 hb (lRm_of rfl (rm_c (by show _ ≤ 320; omega) (Nat.le_of_ble_eq_true rfl))) (k_account (w := 12) hA (by decide) (v := S.1 3) rfl) hA.s9 rfl rfl (Nat.le_of_ble_eq_true rfl) ?_
      intro sh sz V cu su hA hb
      refine g_i2f dL_sums_533 ?_
      rw [hbr]
      refine g_fdiv dL_sums_534 (fp_share b1) ?_
      refine g_fcmp dL_sums_535 ?_
      refine g_if_ne (tgt := 543) dL_sums_536 (by decide) (fun hq => absurd hq ((fun q => q (fp_selfV (vf_nn (fp_share b1)))))) (fun _ => ?_)
      refine g_iconst (v := nI 1) dL_sums_539 (by decide) ?_
      refine g_jump (tgt := 544) dL_sums_540 (by decide) ?_
      rw [← hbr]
      exact (J544 _ _ rfl _ _ _ _ _ _ _).go hA hb (by omega)
  have K457 : ∀ (th : Nat → Int32), Oc S.1 (cnt S.1) 0 th → ∀ (d m : Nat), m + d = 12 → ∀ a10 a11 a12 a13 a14 a15, GL E ML_sums (PLs x A sz S (.int (nI 1))) x S ((t, (20, 12), fun m => .int (th m)) :: A) sz (237 + m) 457 [some (.ref x), some (.ref t), some (.int (sI (fun k => bi (¬ S.1 (oR k) = 0)) 10)), some (.int (TW S.1 (cnt S.1))), some (.int (sI (fun d => nI (arR S.1 d)) (cnt S.1))), some (.int (BR S.1 (cnt S.1))), some (.int (UN S.1 (cnt S.1))), some (.int (sI (fun d => bi (dnF S.1 d)) (cnt S.1))), some (.int (sI (fun d => nI (onR S.1 d)) (cnt S.1))), some (.int (nI m)), a10, a11, a12, a13, a14, a15] [] := by
    intro th hoc d
    induction d with
    | zero =>
      intro m hm a10 a11 a12 a13 a14 a15 sh sz V cu su hA hb
      obtain rfl : m = 12 := by omega
      refine g_iload dL_sums_457 rfl ?_
      refine g_bipush (v := nI 12) dL_sums_459 (by decide) ?_
      refine g_icmp_ge (tgt := 511) dL_sums_461 (by decide) (fun _ => ?_) (fun hq => absurd (Int32.le_refl _) hq)
      exact (J511 _ _ _ _ _ _ _ _).go hA hb (by omega)
    | succ d ih =>
      intro m hm a10 a11 a12 a13 a14 a15 sh sz V cu su hA hb
      have hm12 : m < 12 := by omega
      obtain ⟨o1, o2⟩ := Oc_end hI hO hoc hm12
      have hv : ∀ {V : Vl} {sh : Sh} {sz : Nat}, LW x S ((t, (20, 12), fun m => .int (th m)) :: A) sh sz V → V t (nI m).toNatClampNeg = .int (th m) := fun h => by rw [h.arr.2, nI_clamp (by omega)]
      refine g_iload dL_sums_457 rfl ?_
      refine g_bipush (v := nI 12) dL_sums_459 (by decide) ?_
      refine g_icmp_ge (tgt := 511) dL_sums_461 (by decide) (fun hq => absurd hq (nI_ge (by omega) (by decide))) (fun _ => ?_)
      refine g_aload_n dL_sums_464 rfl ?_
      refine g_iload dL_sums_465 rfl ?_
      refine g_iaload dL_sums_467 hA.arr.1 (vp_in_nI (by omega) (by decide)) (hv hA) ?_
      refine g_sipush (v := nI 1999) dL_sums_468 (by decide) ?_
      refine g_icmp_gt (tgt := 503) dL_sums_471 (by decide) (fun hq => absurd hq (o1)) (fun _ => ?_)
      refine g_aload_n dL_sums_474 rfl ?_
      refine g_iload dL_sums_475 rfl ?_
      refine g_lcH 1 (M := ML_sums) (pc := 477) (Y := YL_at) (gIn_SH ml_L_193 wt_L_at ini_L wc_L_at) yn_L_at dL_sums_477 hb (lRm_of rfl (rm_c (by show _ ≤ 320; omega) (Nat.le_of_ble_eq_true rfl))) (l_at (j := m) hA hm12 rfl) rfl rfl (Nat.le_of_ble_eq_true rfl) ?_
      intro sh sz V cu su hA hb
      rw [o2]
      refine g_aload_n dL_sums_480 rfl ?_
      refine g_iload dL_sums_481 rfl ?_
      refine g_iaload dL_sums_483 hA.arr.1 (vp_in_nI (by omega) (by decide)) (hv hA) ?_
      refine g_if_ne (tgt := 492) dL_sums_484 (by decide) (fun b1 => ?_) (fun b1 => ?_)
      · refine g_aload_n dL_sums_492 rfl ?_
        refine g_iload dL_sums_493 rfl ?_
        refine g_iaload dL_sums_495 hA.arr.1 (vp_in_nI (by omega) (by decide)) (hv hA) ?_
        rw [if_neg b1]
        refine g_sipush (v := nI 1000) dL_sums_496 (by decide) ?_
        refine g_isub dL_sums_499 ?_
        refine g_icmp_eq (tgt := 505) dL_sums_500 (by decide) (fun _ => ?_) (fun hq => absurd (rfl) hq)
        refine g_iinc dL_sums_505 rfl (by first | exact nI_inc _ | rfl) (by decide) rfl ?_
        show G _ _ _ _ _ _ _ _ _ [_, _, _, _, _, _, _, _, _, _, _, _, _, _, _, _] _
        refine g_jump (tgt := 457) dL_sums_508 (by decide) ?_
        exact (ih (m + 1) (by omega) _ _ _ _ _ _).go hA hb (by omega)
      · rw [if_pos b1]
        refine g_bipush (v := (-13)) dL_sums_487 (by decide) ?_
        refine g_jump (tgt := 500) dL_sums_489 (by decide) ?_
        refine g_icmp_eq (tgt := 505) dL_sums_500 (by decide) (fun _ => ?_) (fun hq => absurd (rfl) hq)
        refine g_iinc dL_sums_505 rfl (by first | exact nI_inc _ | rfl) (by decide) rfl ?_
        show G _ _ _ _ _ _ _ _ _ [_, _, _, _, _, _, _, _, _, _, _, _, _, _, _, _] _
        refine g_jump (tgt := 457) dL_sums_508 (by decide) ?_
        exact (ih (m + 1) (by omega) _ _ _ _ _ _).go hA hb (by omega)
  have K80 : ∀ (d c : Nat), c + d = cnt S.1 → ∀ (th : Nat → Int32), Oc S.1 c 0 th → ∀ a10 a11 a12 a13 a14 a15, GL E ML_sums (PLs x A sz S (.int (nI 1))) x S ((t, (20, 12), fun m => .int (th m)) :: A) sz (16 + 55 * c) 80 [some (.ref x), some (.ref t), some (.int (sI (fun k => bi (¬ S.1 (oR k) = 0)) 10)), some (.int (TW S.1 c)), some (.int (sI (fun d => nI (arR S.1 d)) c)), some (.int (BR S.1 c)), some (.int (UN S.1 c)), some (.int (sI (fun d => bi (dnF S.1 d)) c)), some (.int (sI (fun d => nI (onR S.1 d)) c)), some (.int (nI c)), a10, a11, a12, a13, a14, a15] [] := by
    intro d
    induction d with
    | zero =>
      intro c hc th hoc a10 a11 a12 a13 a14 a15 sh sz V cu su hA hb
      obtain rfl : c = cnt S.1 := by omega
      refine g_iload dL_sums_80 rfl ?_
      refine g_aload_n dL_sums_82 rfl ?_
      refine g_iconst (v := nI 2) dL_sums_83 (by decide) ?_
      refine g_lcV 1 (M := ML_sums) (pc := 84) (Y := YX6_account) sv_L_182 rfl yn_X6_account 8 (by decide) rfl rfl dL_sums_84 hb (lRm_of rfl (rm_c (by show _ ≤ 320; omega) (Nat.le_of_ble_eq_true rfl))) (k_account (w := 2) hA (by decide) (acc2 hI)) hA.s9 rfl rfl (Nat.le_of_ble_eq_true rfl) ?_
      intro sh sz V cu su hA hb
      refine g_icmp_ge (tgt := 454) dL_sums_87 (by decide) (fun _ => ?_) (fun hq => absurd (Int32.le_refl _) hq)
      refine g_iconst (v := nI 0) dL_sums_454 (by decide) ?_
      refine g_istore dL_sums_455 (by decide) rfl ?_
      show G _ _ _ _ _ _ _ _ _ [_, _, _, _, _, _, _, _, _, _, _, _, _, _, _, _] _
      exact (K457 th hoc 12 0 rfl _ _ _ _ _ _).go hA hb (by omega)
    | succ d ih =>
      intro c hc th hoc
      have hc4 : c < cnt S.1 := by omega
      obtain ⟨⟨g, g1, g2, eg⟩, en, hn4, -, hT⟩ := hI.cv hc4
      have hdn := dn_iff hI hc4
      have J448 : ∀ (th : Nat → Int32), Oc S.1 c (ncv S.1 c) th → ∀ a11 a12 a13 a14 a15, GL E ML_sums (PLs x A sz S (.int (nI 1))) x S ((t, (20, 12), fun m => .int (th m)) :: A) sz (16 + 55 * c + 55) 448 [some (.ref x), some (.ref t), some (.int (sI (fun k => bi (¬ S.1 (oR k) = 0)) 10)), some (.int (TW S.1 (c + 1))), some (.int (sI (fun d => nI (arR S.1 d)) (c + 1))), some (.int (BR S.1 (c + 1))), some (.int (UN S.1 (c + 1))), some (.int (sI (fun d => bi (dnF S.1 d)) (c + 1))), some (.int (sI (fun d => nI (onR S.1 d)) (c + 1))), some (.int (nI c)), some (.int (S.1 (oC c 2))), a11, a12, a13, a14, a15] [] := by
        intro th hoc a11 a12 a13 a14 a15 sh sz V cu su hA hb
        refine g_iinc dL_sums_448 rfl (by first | exact nI_inc _ | rfl) (by decide) rfl ?_
        show G _ _ _ _ _ _ _ _ _ [_, _, _, _, _, _, _, _, _, _, _, _, _, _, _, _] _
        refine g_jump (tgt := 80) dL_sums_451 (by decide) ?_
        exact (ih (c + 1) (by omega) th (Oc_next hoc) _ _ _ _ _ _).go hA hb (by omega)
      have J443 : ∀ (th : Nat → Int32), Oc S.1 c (ncv S.1 c) th → ∀ v, v = bi (dnF S.1 c) → ∀ a14 a15, GL E ML_sums (PLs x A sz S (.int (nI 1))) x S ((t, (20, 12), fun m => .int (th m)) :: A) sz (16 + 55 * c + 55) 443 [some (.ref x), some (.ref t), some (.int (sI (fun k => bi (¬ S.1 (oR k) = 0)) 10)), some (.int (TW S.1 (c + 1))), some (.int (sI (fun d => nI (arR S.1 d)) (c + 1))), some (.int (BR S.1 (c + 1))), some (.int (UN S.1 (c + 1))), some (.int (sI (fun d => bi (dnF S.1 d)) (c + 1))), some (.int (sI (fun d => nI (onR S.1 d)) (c + 1))), some (.int (nI c)), some (.int (S.1 (oC c 2))), some (.int (nI (onR S.1 c))), some (.int (nI (arR S.1 c))), some (.int (bi (dnF S.1 c))), a14, a15] [.int v, .int (bi (dnF S.1 c))] := by
        intro th hoc v hv a14 a15 sh sz V cu su hA hb
        subst hv
        refine g_icmp_eq (tgt := 448) dL_sums_443 (by decide) (fun _ => ?_) (fun hq => absurd (rfl) hq)
        exact (J448 th hoc _ _ _ _ _).go hA hb (by omega)
      have J385 : ∀ (th : Nat → Int32), Oc S.1 c (ncv S.1 c) th → ∀ v, v = bi (0 ≤ S.1 (oC c 2) ∧ ¬ dnF S.1 c) → ∀ a14 a15, GL E ML_sums (PLs x A sz S (.int (nI 1))) x S ((t, (20, 12), fun m => .int (th m)) :: A) sz (16 + 55 * c + 52) 385 [some (.ref x), some (.ref t), some (.int (sI (fun k => bi (¬ S.1 (oR k) = 0)) 10)), some (.int (TW S.1 (c + 1))), some (.int (sI (fun d => nI (arR S.1 d)) c)), some (.int (BR S.1 (c + 1))), some (.int (UN S.1 c)), some (.int (sI (fun d => bi (dnF S.1 d)) (c + 1))), some (.int (sI (fun d => nI (onR S.1 d)) c)), some (.int (nI c)), some (.int (S.1 (oC c 2))), some (.int (nI (onR S.1 c))), some (.int (nI (arR S.1 c))), some (.int (bi (dnF S.1 c))), a14, a15] [.int v, .int (UN S.1 c)] := by
        intro th hoc v hv a14 a15 sh sz V cu su hA hb
        subst hv
        refine g_iadd dL_sums_385 ?_
        refine g_istore dL_sums_386 (by decide) rfl ?_
        show G _ _ _ _ _ _ _ _ _ [_, _, _, _, _, _, _, _, _, _, _, _, _, _, _, _] _
        refine g_iload dL_sums_388 rfl ?_
        refine g_iload dL_sums_390 rfl ?_
        refine g_iadd dL_sums_392 ?_
        refine g_istore dL_sums_393 (by decide) rfl ?_
        show G _ _ _ _ _ _ _ _ _ [_, _, _, _, _, _, _, _, _, _, _, _, _, _, _, _] _
        refine g_iload dL_sums_395 rfl ?_
        refine g_iload dL_sums_397 rfl ?_
        refine g_iadd dL_sums_399 ?_
        refine g_istore dL_sums_400 (by decide) rfl ?_
        show G _ _ _ _ _ _ _ _ _ [_, _, _, _, _, _, _, _, _, _, _, _, _, _, _, _] _
        refine g_aload_n dL_sums_402 rfl ?_
        refine g_iload dL_sums_403 rfl ?_
        refine g_iconst (v := nI 3) dL_sums_405 (by decide) ?_
        refine g_lcH 1 (M := ML_sums) (pc := 406) (Y := YL_convoyOf) (gIn_SH ml_L_224 wt_L_convoyOf ini_L wc_L_convoyOf) yn_L_convoyOf dL_sums_406 hb (lRm_of rfl (rm_c (by show _ ≤ 320; omega) (Nat.le_of_ble_eq_true rfl))) (l_convoyOf (w := 3) hA hc4 (by decide) (v := nI (onR S.1 c)) rfl) rfl rfl (Nat.le_of_ble_eq_true rfl) ?_
        intro sh sz V cu su hA hb
        refine g_iload dL_sums_409 rfl ?_
        refine g_icmp_ne (tgt := 446) dL_sums_411 (by decide) (fun hq => absurd hq ((fun q => q rfl))) (fun _ => ?_)
        refine g_aload_n dL_sums_414 rfl ?_
        refine g_iload dL_sums_415 rfl ?_
        refine g_iconst (v := nI 4) dL_sums_417 (by decide) ?_
        refine g_lcH 1 (M := ML_sums) (pc := 418) (Y := YL_convoyOf) (gIn_SH ml_L_224 wt_L_convoyOf ini_L wc_L_convoyOf) yn_L_convoyOf dL_sums_418 hb (lRm_of rfl (rm_c (by show _ ≤ 320; omega) (Nat.le_of_ble_eq_true rfl))) (l_convoyOf (w := 4) hA hc4 (by decide) (v := nI (arR S.1 c)) rfl) rfl rfl (Nat.le_of_ble_eq_true rfl) ?_
        intro sh sz V cu su hA hb
        refine g_iload dL_sums_421 rfl ?_
        refine g_icmp_ne (tgt := 446) dL_sums_423 (by decide) (fun hq => absurd hq ((fun q => q rfl))) (fun _ => ?_)
        refine g_aload_n dL_sums_426 rfl ?_
        refine g_iload dL_sums_427 rfl ?_
        refine g_iconst (v := nI 5) dL_sums_429 (by decide) ?_
        refine g_lcH 1 (M := ML_sums) (pc := 430) (Y := YL_convoyOf) (gIn_SH ml_L_224 wt_L_convoyOf ini_L wc_L_convoyOf) yn_L_convoyOf dL_sums_430 hb (lRm_of rfl (rm_c (by show _ ≤ 320; omega) (Nat.le_of_ble_eq_true rfl))) (l_convoyOf (w := 5) hA hc4 (by decide) (v := bi (dnF S.1 c)) rfl) rfl rfl (Nat.le_of_ble_eq_true rfl) ?_
        intro sh sz V cu su hA hb
        refine g_iload dL_sums_433 rfl ?_
        refine g_if_eq (tgt := 442) dL_sums_435 (by decide) (fun b1 => ?_) (fun b1 => ?_)
        · refine g_iconst (v := nI 0) dL_sums_442 (by decide) ?_
          exact (J443 th hoc _ b1.symm _ _).go hA hb (by omega)
        · refine g_iconst (v := nI 1) dL_sums_438 (by decide) ?_
          refine g_jump (tgt := 443) dL_sums_439 (by decide) ?_
          exact (J443 th hoc _ (bi_t (bi_ne b1)).symm _ _).go hA hb (by omega)
      have J365 : ∀ (th : Nat → Int32), Oc S.1 c (ncv S.1 c) th → ∀ v, v = bi (dnF S.1 c) → ∀ a14 a15, GL E ML_sums (PLs x A sz S (.int (nI 1))) x S ((t, (20, 12), fun m => .int (th m)) :: A) sz (16 + 55 * c + 52) 365 [some (.ref x), some (.ref t), some (.int (sI (fun k => bi (¬ S.1 (oR k) = 0)) 10)), some (.int (TW S.1 (c + 1))), some (.int (sI (fun d => nI (arR S.1 d)) c)), some (.int (BR S.1 (c + 1))), some (.int (UN S.1 c)), some (.int (sI (fun d => bi (dnF S.1 d)) c)), some (.int (sI (fun d => nI (onR S.1 d)) c)), some (.int (nI c)), some (.int (S.1 (oC c 2))), some (.int (nI (onR S.1 c))), some (.int (nI (arR S.1 c))), some (.int (bi (dnF S.1 c))), a14, a15] [.int v, .int (sI (fun d => bi (dnF S.1 d)) c)] := by
        intro th hoc v hv a14 a15 sh sz V cu su hA hb
        subst hv
        refine g_iadd dL_sums_365 ?_
        refine g_istore dL_sums_366 (by decide) rfl ?_
        show G _ _ _ _ _ _ _ _ _ [_, _, _, _, _, _, _, _, _, _, _, _, _, _, _, _] _
        refine g_iload dL_sums_368 rfl ?_
        refine g_iload dL_sums_370 rfl ?_
        refine g_if_lt (tgt := 384) dL_sums_372 (by decide) (fun b1 => ?_) (fun b1 => ?_)
        · refine g_iconst (v := nI 0) dL_sums_384 (by decide) ?_
          exact (J385 th hoc _ (bi_f (fun q => absurd q.1 (Int32.not_le.mpr b1))).symm _ _).go hA hb (by omega)
        · refine g_iload dL_sums_375 rfl ?_
          refine g_if_ne (tgt := 384) dL_sums_377 (by decide) (fun b2 => ?_) (fun b2 => ?_)
          · refine g_iconst (v := nI 0) dL_sums_384 (by decide) ?_
            exact (J385 th hoc _ (bi_f (fun q => q.2 (bi_ne b2))).symm _ _).go hA hb (by omega)
          · refine g_iconst (v := nI 1) dL_sums_380 (by decide) ?_
            refine g_jump (tgt := 385) dL_sums_381 (by decide) ?_
            exact (J385 th hoc _ (bi_t ⟨Int32.not_lt.mp b1, bi_eq b2⟩).symm _ _).go hA hb (by omega)
      have J351 : ∀ (th : Nat → Int32), Oc S.1 c (ncv S.1 c) th → ∀ v, v = bi (dnF S.1 c) → ∀ a13 a14 a15, GL E ML_sums (PLs x A sz S (.int (nI 1))) x S ((t, (20, 12), fun m => .int (th m)) :: A) sz (16 + 55 * c + 52) 351 [some (.ref x), some (.ref t), some (.int (sI (fun k => bi (¬ S.1 (oR k) = 0)) 10)), some (.int (TW S.1 (c + 1))), some (.int (sI (fun d => nI (arR S.1 d)) c)), some (.int (BR S.1 (c + 1))), some (.int (UN S.1 c)), some (.int (sI (fun d => bi (dnF S.1 d)) c)), some (.int (sI (fun d => nI (onR S.1 d)) c)), some (.int (nI c)), some (.int (S.1 (oC c 2))), some (.int (nI (onR S.1 c))), some (.int (nI (arR S.1 c))), a13, a14, a15] [.int v] := by
        intro th hoc v hv a13 a14 a15 sh sz V cu su hA hb
        subst hv
        refine g_istore dL_sums_351 (by decide) rfl ?_
        show G _ _ _ _ _ _ _ _ _ [_, _, _, _, _, _, _, _, _, _, _, _, _, _, _, _] _
        refine g_iload dL_sums_353 rfl ?_
        refine g_iload dL_sums_355 rfl ?_
        refine g_if_eq (tgt := 364) dL_sums_357 (by decide) (fun b1 => ?_) (fun b1 => ?_)
        · refine g_iconst (v := nI 0) dL_sums_364 (by decide) ?_
          exact (J365 th hoc _ b1.symm _ _).go hA hb (by omega)
        · refine g_iconst (v := nI 1) dL_sums_360 (by decide) ?_
          refine g_jump (tgt := 365) dL_sums_361 (by decide) ?_
          exact (J365 th hoc _ (bi_t (bi_ne b1)).symm _ _).go hA hb (by omega)
      have J329 : ∀ (th : Nat → Int32), Oc S.1 c (ncv S.1 c) th → ∀ a13 a14 a15, GL E ML_sums (PLs x A sz S (.int (nI 1))) x S ((t, (20, 12), fun m => .int (th m)) :: A) sz (16 + 55 * c + 51) 329 [some (.ref x), some (.ref t), some (.int (sI (fun k => bi (¬ S.1 (oR k) = 0)) 10)), some (.int (TW S.1 (c + 1))), some (.int (sI (fun d => nI (arR S.1 d)) c)), some (.int (BR S.1 (c + 1))), some (.int (UN S.1 c)), some (.int (sI (fun d => bi (dnF S.1 d)) c)), some (.int (sI (fun d => nI (onR S.1 d)) c)), some (.int (nI c)), some (.int (S.1 (oC c 2))), some (.int (nI (onR S.1 c))), some (.int (nI (arR S.1 c))), a13, a14, a15] [] := by
        intro th hoc a13 a14 a15 sh sz V cu su hA hb
        refine g_iload dL_sums_329 rfl ?_
        refine g_if_le (tgt := 350) dL_sums_331 (by decide) (fun b1 => ?_) (fun b1 => ?_)
        · refine g_iconst (v := nI 0) dL_sums_350 (by decide) ?_
          have h0 : ¬ 0 < arR S.1 c := fun q => absurd b1 (Int32.not_le.mpr (nI_lt q (by have := fb_ct_le (fun k => decide (nI 12 ≤ mt (S.1 (oC c 2)) (S.1 (oC c 0)) k)) (ncv S.1 c); unfold arR; omega)))
          exact (J351 th hoc _ (bi_f (fun q => h0 (hdn.mp q).1)).symm _ _ _).go hA hb (by omega)
        · have har : arR S.1 c ≤ ncv S.1 c := fb_ct_le _ _
          have h0 : 0 < arR S.1 c := by
            rcases Nat.eq_zero_or_pos (arR S.1 c) with q | q
            · rw [q] at b1
              exact absurd (by decide) b1
            · exact q
          refine g_iload dL_sums_334 rfl ?_
          refine g_aload_n dL_sums_336 rfl ?_
          refine g_iload dL_sums_337 rfl ?_
          refine g_iconst (v := nI 1) dL_sums_339 (by decide) ?_
          refine g_lcH 1 (M := ML_sums) (pc := 340) (Y := YL_convoyOf) (gIn_SH ml_L_224 wt_L_convoyOf ini_L wc_L_convoyOf) yn_L_convoyOf dL_sums_340 hb (lRm_of rfl (rm_c (by show _ ≤ 320; omega) (Nat.le_of_ble_eq_true rfl))) (l_convoyOf (w := 1) hA hc4 (by decide) (cvV1 hI hc4)) rfl rfl (Nat.le_of_ble_eq_true rfl) ?_
          intro sh sz V cu su hA hb
          refine g_icmp_ne (tgt := 350) dL_sums_343 (by decide) (fun b2 => ?_) (fun b2 => ?_)
          · refine g_iconst (v := nI 0) dL_sums_350 (by decide) ?_
            exact (J351 th hoc _ (bi_f (fun q => b2 (by rw [(hdn.mp q).2]))).symm _ _ _).go hA hb (by omega)
          · refine g_iconst (v := nI 1) dL_sums_346 (by decide) ?_
            refine g_jump (tgt := 351) dL_sums_347 (by decide) ?_
            exact (J351 th hoc _ (bi_t (hdn.mpr ⟨h0, (nI_eq (by omega) (by omega)).mp b2⟩)).symm _ _ _).go hA hb (by omega)
      have K108 : ∀ (e k : Nat), k + e = ncv S.1 c → ∀ (th : Nat → Int32), Oc S.1 c k th → ∀ a14 a15, GL E ML_sums (PLs x A sz S (.int (nI 1))) x S ((t, (20, 12), fun m => .int (th m)) :: A) sz (16 + 55 * c + 2 + 12 * k) 108 [some (.ref x), some (.ref t), some (.int (sI (fun k => bi (¬ S.1 (oR k) = 0)) 10)), some (.int (TW S.1 c + sI (uwF S.1 c) k)), some (.int (sI (fun d => nI (arR S.1 d)) c)), some (.int (BR S.1 c + sI (bwF S.1 c) k)), some (.int (UN S.1 c)), some (.int (sI (fun d => bi (dnF S.1 d)) c)), some (.int (sI (fun d => nI (onR S.1 d)) c)), some (.int (nI c)), some (.int (S.1 (oC c 2))), some (.int (nI (fb_ct (fun i => decide (isM (mt (S.1 (oC c 2)) (S.1 (oC c 0)) i))) k))), some (.int (nI (fb_ct (fun i => decide (nI 12 ≤ mt (S.1 (oC c 2)) (S.1 (oC c 0)) i)) k))), some (.int (nI k)), a14, a15] [] := by
        intro e
        induction e with
        | zero =>
          intro k hk th hoc a14 a15 sh sz V cu su hA hb
          obtain rfl : k = ncv S.1 c := by omega
          refine g_iload dL_sums_108 rfl ?_
          refine g_aload_n dL_sums_110 rfl ?_
          refine g_iload dL_sums_111 rfl ?_
          refine g_iconst (v := nI 1) dL_sums_113 (by decide) ?_
          refine g_lcH 1 (M := ML_sums) (pc := 114) (Y := YL_convoyOf) (gIn_SH ml_L_224 wt_L_convoyOf ini_L wc_L_convoyOf) yn_L_convoyOf dL_sums_114 hb (lRm_of rfl (rm_c (by show _ ≤ 320; omega) (Nat.le_of_ble_eq_true rfl))) (l_convoyOf (w := 1) hA hc4 (by decide) (cvV1 hI hc4)) rfl rfl (Nat.le_of_ble_eq_true rfl) ?_
          intro sh sz V cu su hA hb
          refine g_icmp_ge (tgt := 329) dL_sums_117 (by decide) (fun _ => ?_) (fun hq => absurd (Int32.le_refl _) hq)
          rw [show TW S.1 c + sI (uwF S.1 c) (ncv S.1 c) = TW S.1 (c + 1) by unfold TW; rw [sI_succ, Int32.add_assoc]]
          exact (J329 th hoc _ _ _).go hA hb (by omega)
        | succ e ih2 =>
          intro k hk th hoc
          have hk4 : k < ncv S.1 c := by omega
          have hok := bud_okN (hT k hk4)
          have J321 : ∀ (th : Nat → Int32), Oc S.1 c (k + 1) th → ∀ v, v = uwF S.1 c k → ∀ a15, GL E ML_sums (PLs x A sz S (.int (nI 1))) x S ((t, (20, 12), fun m => .int (th m)) :: A) sz (16 + 55 * c + 14 + 12 * k) 321 [some (.ref x), some (.ref t), some (.int (sI (fun k => bi (¬ S.1 (oR k) = 0)) 10)), some (.int (TW S.1 c + sI (uwF S.1 c) k)), some (.int (sI (fun d => nI (arR S.1 d)) c)), some (.int (BR S.1 c + sI (bwF S.1 c) (k + 1))), some (.int (UN S.1 c)), some (.int (sI (fun d => bi (dnF S.1 d)) c)), some (.int (sI (fun d => nI (onR S.1 d)) c)), some (.int (nI c)), some (.int (S.1 (oC c 2))), some (.int (nI (fb_ct (fun i => decide (isM (mt (S.1 (oC c 2)) (S.1 (oC c 0)) i))) (k + 1)))), some (.int (nI (fb_ct (fun i => decide (nI 12 ≤ mt (S.1 (oC c 2)) (S.1 (oC c 0)) i)) (k + 1)))), some (.int (nI k)), some (.int (mt (S.1 (oC c 2)) (S.1 (oC c 0)) k)), a15] [.int v, .int (TW S.1 c + sI (uwF S.1 c) k)] := by
            intro th hoc v hv a15 sh sz V cu su hA hb
            subst hv
            refine g_iadd dL_sums_321 ?_
            refine g_istore_n dL_sums_322 (by decide) rfl ?_
            show G _ _ _ _ _ _ _ _ _ [_, _, _, _, _, _, _, _, _, _, _, _, _, _, _, _] _
            rw [Int32.add_assoc, ← sI_succ]
            refine g_iinc dL_sums_323 rfl (by first | exact nI_inc _ | rfl) (by decide) rfl ?_
            show G _ _ _ _ _ _ _ _ _ [_, _, _, _, _, _, _, _, _, _, _, _, _, _, _, _] _
            refine g_jump (tgt := 108) dL_sums_326 (by decide) ?_
            exact (ih2 (k + 1) (by omega) th hoc _ _).go hA hb (by omega)
          have J297 : ∀ (th : Nat → Int32), Oc S.1 c (k + 1) th → ∀ v, v = bwF S.1 c k → ∀ a15, GL E ML_sums (PLs x A sz S (.int (nI 1))) x S ((t, (20, 12), fun m => .int (th m)) :: A) sz (16 + 55 * c + 13 + 12 * k) 297 [some (.ref x), some (.ref t), some (.int (sI (fun k => bi (¬ S.1 (oR k) = 0)) 10)), some (.int (TW S.1 c + sI (uwF S.1 c) k)), some (.int (sI (fun d => nI (arR S.1 d)) c)), some (.int (BR S.1 c + sI (bwF S.1 c) k)), some (.int (UN S.1 c)), some (.int (sI (fun d => bi (dnF S.1 d)) c)), some (.int (sI (fun d => nI (onR S.1 d)) c)), some (.int (nI c)), some (.int (S.1 (oC c 2))), some (.int (nI (fb_ct (fun i => decide (isM (mt (S.1 (oC c 2)) (S.1 (oC c 0)) i))) (k + 1)))), some (.int (nI (fb_ct (fun i => decide (nI 12 ≤ mt (S.1 (oC c 2)) (S.1 (oC c 0)) i)) (k + 1)))), some (.int (nI k)), some (.int (mt (S.1 (oC c 2)) (S.1 (oC c 0)) k)), a15] [.int v, .int (BR S.1 c + sI (bwF S.1 c) k)] := by
            intro th hoc v hv a15 sh sz V cu su hA hb
            subst hv
            refine g_iadd dL_sums_297 ?_
            rw [Int32.add_assoc, ← sI_succ]
            refine g_istore dL_sums_298 (by decide) rfl ?_
            show G _ _ _ _ _ _ _ _ _ [_, _, _, _, _, _, _, _, _, _, _, _, _, _, _, _] _
            refine g_iload_n dL_sums_300 rfl ?_
            refine g_iload dL_sums_301 rfl ?_
            refine g_bipush (v := nI 11) dL_sums_303 (by decide) ?_
            refine g_icmp_le (tgt := 312) dL_sums_305 (by decide) (fun b1 => ?_) (fun b1 => ?_)
            · refine g_aload_n dL_sums_312 rfl ?_
              refine g_iload dL_sums_313 rfl ?_
              refine g_iload dL_sums_315 rfl ?_
              refine g_iconst (v := nI 1) dL_sums_317 (by decide) ?_
              refine g_lcH 1 (M := ML_sums) (pc := 318) (Y := YL_truckOf) (gIn_SH ml_L_226 wt_L_truckOf ini_L wc_L_truckOf) yn_L_truckOf dL_sums_318 hb (lRm_of rfl (rm_c (by show _ ≤ 320; omega) (Nat.le_of_ble_eq_true rfl))) (l_truckOf (w := 1) hA hc4 hk4 (by decide) (v := (tkF S.1 c k).2.1) rfl) rfl rfl (Nat.le_of_ble_eq_true rfl) ?_
              intro sh sz V cu su hA hb
              exact (J321 th hoc _ (if_neg (fun q => (nle11 _).mpr q b1)).symm _).go hA hb (by omega)
            · refine g_iconst (v := nI 0) dL_sums_308 (by decide) ?_
              refine g_jump (tgt := 321) dL_sums_309 (by decide) ?_
              exact (J321 th hoc _ (if_pos ((nle11 _).mp b1)).symm _).go hA hb (by omega)
          have J272 : ∀ (th : Nat → Int32), Oc S.1 c (k + 1) th → ∀ v, v = (if nI 12 ≤ (mt (S.1 (oC c 2)) (S.1 (oC c 0)) k) then nI 1 else nI 0) → ∀ a15, GL E ML_sums (PLs x A sz S (.int (nI 1))) x S ((t, (20, 12), fun m => .int (th m)) :: A) sz (16 + 55 * c + 12 + 12 * k) 272 [some (.ref x), some (.ref t), some (.int (sI (fun k => bi (¬ S.1 (oR k) = 0)) 10)), some (.int (TW S.1 c + sI (uwF S.1 c) k)), some (.int (sI (fun d => nI (arR S.1 d)) c)), some (.int (BR S.1 c + sI (bwF S.1 c) k)), some (.int (UN S.1 c)), some (.int (sI (fun d => bi (dnF S.1 d)) c)), some (.int (sI (fun d => nI (onR S.1 d)) c)), some (.int (nI c)), some (.int (S.1 (oC c 2))), some (.int (nI (fb_ct (fun i => decide (isM (mt (S.1 (oC c 2)) (S.1 (oC c 0)) i))) (k + 1)))), some (.int (nI (fb_ct (fun i => decide (nI 12 ≤ mt (S.1 (oC c 2)) (S.1 (oC c 0)) i)) k))), some (.int (nI k)), some (.int (mt (S.1 (oC c 2)) (S.1 (oC c 0)) k)), a15] [.int v, .int (nI (fb_ct (fun i => decide (nI 12 ≤ mt (S.1 (oC c 2)) (S.1 (oC c 0)) i)) k))] := by
            intro th hoc v hv a15 sh sz V cu su hA hb
            have ep : (nI (fb_ct (fun i => decide (nI 12 ≤ mt (S.1 (oC c 2)) (S.1 (oC c 0)) i)) k)) + v = (nI (fb_ct (fun i => decide (nI 12 ≤ mt (S.1 (oC c 2)) (S.1 (oC c 0)) i)) (k + 1))) := by
              rw [fb_ct_succ, hv]
              by_cases q : nI 12 ≤ (mt (S.1 (oC c 2)) (S.1 (oC c 0)) k)
              · rw [if_pos q, if_pos (decide_eq_true q), nI_add]
              · rw [if_neg q, if_neg (by rw [decide_eq_false q]; decide), nI_add]
            refine g_iadd dL_sums_272 ?_
            rw [ep]
            refine g_istore dL_sums_273 (by decide) rfl ?_
            show G _ _ _ _ _ _ _ _ _ [_, _, _, _, _, _, _, _, _, _, _, _, _, _, _, _] _
            refine g_iload dL_sums_275 rfl ?_
            refine g_iload dL_sums_277 rfl ?_
            refine g_bipush (v := nI 11) dL_sums_279 (by decide) ?_
            refine g_icmp_le (tgt := 296) dL_sums_281 (by decide) (fun b1 => ?_) (fun b1 => ?_)
            · refine g_iconst (v := nI 0) dL_sums_296 (by decide) ?_
              exact (J297 th hoc _ (if_neg (fun q => (nle11 _).mpr q b1)).symm _).go hA hb (by omega)
            · refine g_aload_n dL_sums_284 rfl ?_
              refine g_iload dL_sums_285 rfl ?_
              refine g_iload dL_sums_287 rfl ?_
              refine g_iconst (v := nI 1) dL_sums_289 (by decide) ?_
              refine g_lcH 1 (M := ML_sums) (pc := 290) (Y := YL_truckOf) (gIn_SH ml_L_226 wt_L_truckOf ini_L wc_L_truckOf) yn_L_truckOf dL_sums_290 hb (lRm_of rfl (rm_c (by show _ ≤ 320; omega) (Nat.le_of_ble_eq_true rfl))) (l_truckOf (w := 1) hA hc4 hk4 (by decide) (v := (tkF S.1 c k).2.1) rfl) rfl rfl (Nat.le_of_ble_eq_true rfl) ?_
              intro sh sz V cu su hA hb
              refine g_jump (tgt := 297) dL_sums_293 (by decide) ?_
              exact (J297 th hoc _ (if_pos ((nle11 _).mp b1)).symm _).go hA hb (by omega)
          have J258 : ∀ (th : Nat → Int32), Oc S.1 c (k + 1) th → ∀ a15, GL E ML_sums (PLs x A sz S (.int (nI 1))) x S ((t, (20, 12), fun m => .int (th m)) :: A) sz (16 + 55 * c + 12 + 12 * k) 258 [some (.ref x), some (.ref t), some (.int (sI (fun k => bi (¬ S.1 (oR k) = 0)) 10)), some (.int (TW S.1 c + sI (uwF S.1 c) k)), some (.int (sI (fun d => nI (arR S.1 d)) c)), some (.int (BR S.1 c + sI (bwF S.1 c) k)), some (.int (UN S.1 c)), some (.int (sI (fun d => bi (dnF S.1 d)) c)), some (.int (sI (fun d => nI (onR S.1 d)) c)), some (.int (nI c)), some (.int (S.1 (oC c 2))), some (.int (nI (fb_ct (fun i => decide (isM (mt (S.1 (oC c 2)) (S.1 (oC c 0)) i))) (k + 1)))), some (.int (nI (fb_ct (fun i => decide (nI 12 ≤ mt (S.1 (oC c 2)) (S.1 (oC c 0)) i)) k))), some (.int (nI k)), some (.int (mt (S.1 (oC c 2)) (S.1 (oC c 0)) k)), a15] [] := by
            intro th hoc a15 sh sz V cu su hA hb
            refine g_iload dL_sums_258 rfl ?_
            refine g_iload dL_sums_260 rfl ?_
            refine g_bipush (v := nI 11) dL_sums_262 (by decide) ?_
            refine g_icmp_le (tgt := 271) dL_sums_264 (by decide) (fun b1 => ?_) (fun b1 => ?_)
            · refine g_iconst (v := nI 0) dL_sums_271 (by decide) ?_
              exact (J272 th hoc _ (if_neg (fun q => (nle11 _).mpr q b1)).symm _).go hA hb (by omega)
            · refine g_iconst (v := nI 1) dL_sums_267 (by decide) ?_
              refine g_jump (tgt := 272) dL_sums_268 (by decide) ?_
              exact (J272 th hoc _ (if_pos ((nle11 _).mp b1)).symm _).go hA hb (by omega)
          have J224 : ∀ a15, GL E ML_sums (PLs x A sz S (.int (nI 1))) x S ((t, (20, 12), fun m => .int (th m)) :: A) sz (16 + 55 * c + 12 + 12 * k) 224 [some (.ref x), some (.ref t), some (.int (sI (fun k => bi (¬ S.1 (oR k) = 0)) 10)), some (.int (TW S.1 c + sI (uwF S.1 c) k)), some (.int (sI (fun d => nI (arR S.1 d)) c)), some (.int (BR S.1 c + sI (bwF S.1 c) k)), some (.int (UN S.1 c)), some (.int (sI (fun d => bi (dnF S.1 d)) c)), some (.int (sI (fun d => nI (onR S.1 d)) c)), some (.int (nI c)), some (.int (S.1 (oC c 2))), some (.int (nI (fb_ct (fun i => decide (isM (mt (S.1 (oC c 2)) (S.1 (oC c 0)) i))) k))), some (.int (nI (fb_ct (fun i => decide (nI 12 ≤ mt (S.1 (oC c 2)) (S.1 (oC c 0)) i)) k))), some (.int (nI k)), some (.int (mt (S.1 (oC c 2)) (S.1 (oC c 0)) k)), a15] [] := by
            intro a15 sh sz V cu su hA hb
            have eno : ¬ isM (mt (S.1 (oC c 2)) (S.1 (oC c 0)) k) → (nI (fb_ct (fun i => decide (isM (mt (S.1 (oC c 2)) (S.1 (oC c 0)) i))) k)) = (nI (fb_ct (fun i => decide (isM (mt (S.1 (oC c 2)) (S.1 (oC c 0)) i))) (k + 1))) := fun q => by
              rw [fb_ct_succ, if_neg (by rw [decide_eq_false q]; decide)]
              rfl
            have hno : ¬ isM (mt (S.1 (oC c 2)) (S.1 (oC c 0)) k) → Oc S.1 c (k + 1) th := fun q => Oc_skip hoc (fun m hm z => q (by rw [z]; exact isM_n hm))
            refine g_iload dL_sums_224 rfl ?_
            refine g_if_lt (tgt := 258) dL_sums_226 (by decide) (fun b1 => ?_) (fun b1 => ?_)
            · have q : ¬ isM (mt (S.1 (oC c 2)) (S.1 (oC c 0)) k) := fun q => absurd q.1 (Int32.not_le.mpr b1)
              rw [eno q]
              exact (J258 th (hno q) _).go hA hb (by omega)
            · refine g_iload dL_sums_229 rfl ?_
              refine g_bipush (v := nI 12) dL_sums_231 (by decide) ?_
              refine g_icmp_ge (tgt := 258) dL_sums_233 (by decide) (fun b2 => ?_) (fun b2 => ?_)
              · have q : ¬ isM (mt (S.1 (oC c 2)) (S.1 (oC c 0)) k) := fun q => absurd q.2 (Int32.not_lt.mpr b2)
                rw [eno q]
                exact (J258 th (hno q) _).go hA hb (by omega)
              · have q : isM (mt (S.1 (oC c 2)) (S.1 (oC c 0)) k) := ⟨Int32.not_lt.mp b1, Int32.not_le.mp b2⟩
                obtain ⟨m, hm, em⟩ := isM_nI q
                have h0 := Oc_free hO hoc hc4 hk4 hm em
                have hp := Oc_put hI hO hoc hc4 hk4 hm em
                have ey : (nI (fb_ct (fun i => decide (isM (mt (S.1 (oC c 2)) (S.1 (oC c 0)) i))) k)) + Int32.ofInt 1 = (nI (fb_ct (fun i => decide (isM (mt (S.1 (oC c 2)) (S.1 (oC c 0)) i))) (k + 1))) := by
                  rw [fb_ct_succ, if_pos (decide_eq_true q)]
                  exact nI_inc _
                refine g_aload_n dL_sums_236 rfl ?_
                refine g_iload dL_sums_237 rfl ?_
                rw [em]
                refine g_dup2 dL_sums_239 rfl rfl ?_
                refine g_iaload dL_sums_240 hA.arr.1 (vp_in_nI (by omega) (by decide)) (show V t (nI m).toNatClampNeg = .int 0 by rw [hA.arr.2, nI_clamp (by omega)]; exact congrArg Value.int h0) ?_
                refine g_bipush (v := nI 10) dL_sums_241 (by decide) ?_
                refine g_iload dL_sums_243 rfl ?_
                refine g_imul dL_sums_245 ?_
                refine g_iload dL_sums_246 rfl ?_
                refine g_iadd dL_sums_248 ?_
                refine g_sipush (v := nI 1000) dL_sums_249 (by decide) ?_
                refine g_iadd dL_sums_252 ?_
                refine g_iadd dL_sums_253 ?_
                rw [show (0 : Int32) + (nI 10 * nI c + nI k + nI 1000) = nI (10 * c + k + 1000) by rw [pk_mul, nI_add, nI_add, Int32.zero_add]]
                refine g_iastore dL_sums_254 hA.arr.1 (vp_in_nI (by omega) (by decide)) ?_
                rw [nI_clamp (by omega)]
                have hA := hA.put (k := m) (v := .int (nI (10 * c + k + 1000))) hfr (by show ¬ 20 = 8; decide)
                rw [upd_fun] at hA
                refine g_iinc dL_sums_255 rfl ey (by decide) rfl ?_
                show G _ _ _ _ _ _ _ _ _ [_, _, _, _, _, _, _, _, _, _, _, _, _, _, _, _] _
                rw [← em]
                exact (J258 _ hp _).go hA hb (by omega)
          have J192 : ∀ v, v = bud (tkF S.1 c k) → ∀ a15, GL E ML_sums (PLs x A sz S (.int (nI 1))) x S ((t, (20, 12), fun m => .int (th m)) :: A) sz (16 + 55 * c + 7 + 12 * k) 192 [some (.ref x), some (.ref t), some (.int (sI (fun k => bi (¬ S.1 (oR k) = 0)) 10)), some (.int (TW S.1 c + sI (uwF S.1 c) k)), some (.int (sI (fun d => nI (arR S.1 d)) c)), some (.int (BR S.1 c + sI (bwF S.1 c) k)), some (.int (UN S.1 c)), some (.int (sI (fun d => bi (dnF S.1 d)) c)), some (.int (sI (fun d => nI (onR S.1 d)) c)), some (.int (nI c)), some (.int (S.1 (oC c 2))), some (.int (nI (fb_ct (fun i => decide (isM (mt (S.1 (oC c 2)) (S.1 (oC c 0)) i))) k))), some (.int (nI (fb_ct (fun i => decide (nI 12 ≤ mt (S.1 (oC c 2)) (S.1 (oC c 0)) i)) k))), some (.int (nI k)), some (.int (mt (S.1 (oC c 2)) (S.1 (oC c 0)) k)), a15] [.float v] := by
            intro v hv a15 sh sz V cu su hA hb
            subst hv
            refine g_fstore dL_sums_192 (by decide) rfl ?_
            show G _ _ _ _ _ _ _ _ _ [_, _, _, _, _, _, _, _, _, _, _, _, _, _, _, _] _
            refine g_aload_n dL_sums_194 rfl ?_
            refine g_iload dL_sums_195 rfl ?_
            refine g_iload dL_sums_197 rfl ?_
            refine g_iconst (v := nI 3) dL_sums_199 (by decide) ?_
            refine g_lcH 1 (M := ML_sums) (pc := 200) (Y := YL_truckOf) (gIn_SH ml_L_226 wt_L_truckOf ini_L wc_L_truckOf) yn_L_truckOf dL_sums_200 hb (lRm_of rfl (rm_c (by show _ ≤ 320; omega) (Nat.le_of_ble_eq_true rfl))) (l_truckOf (w := 3) hA hc4 hk4 (by decide) (v := mt (S.1 (oC c 2)) (S.1 (oC c 0)) k) rfl) rfl rfl (Nat.le_of_ble_eq_true rfl) ?_
            intro sh sz V cu su hA hb
            refine g_iload dL_sums_203 rfl ?_
            refine g_icmp_ne (tgt := 222) dL_sums_205 (by decide) (fun hq => absurd hq ((fun q => q rfl))) (fun _ => ?_)
            refine g_aload_n dL_sums_208 rfl ?_
            refine g_iload dL_sums_209 rfl ?_
            refine g_iload dL_sums_211 rfl ?_
            refine g_lcV 1 (M := ML_sums) (pc := 213) (Y := YX6_load) sv_L_229 rfl yn_X6_load 8 (by decide) rfl rfl dL_sums_213 hb (lRm_of rfl (rm_c (by show _ ≤ 320; omega) (Nat.le_of_ble_eq_true rfl))) (k_load hA hc4 hk4) hA.s9 rfl rfl (Nat.le_of_ble_eq_true rfl) ?_
            intro sh sz V cu su hA hb
            refine g_fload dL_sums_216 rfl ?_
            refine g_fcmp dL_sums_218 ?_
            refine g_if_eq (tgt := 224) dL_sums_219 (by decide) (fun _ => ?_) (fun hq => absurd ((fp_selfA hok)) hq)
            exact (J224 _).go hA hb (by omega)
          have J144 : ∀ v, v = (mt (S.1 (oC c 2)) (S.1 (oC c 0)) k) → ∀ a14 a15, GL E ML_sums (PLs x A sz S (.int (nI 1))) x S ((t, (20, 12), fun m => .int (th m)) :: A) sz (16 + 55 * c + 2 + 2 + 12 * k) 144 [some (.ref x), some (.ref t), some (.int (sI (fun k => bi (¬ S.1 (oR k) = 0)) 10)), some (.int (TW S.1 c + sI (uwF S.1 c) k)), some (.int (sI (fun d => nI (arR S.1 d)) c)), some (.int (BR S.1 c + sI (bwF S.1 c) k)), some (.int (UN S.1 c)), some (.int (sI (fun d => bi (dnF S.1 d)) c)), some (.int (sI (fun d => nI (onR S.1 d)) c)), some (.int (nI c)), some (.int (S.1 (oC c 2))), some (.int (nI (fb_ct (fun i => decide (isM (mt (S.1 (oC c 2)) (S.1 (oC c 0)) i))) k))), some (.int (nI (fb_ct (fun i => decide (nI 12 ≤ mt (S.1 (oC c 2)) (S.1 (oC c 0)) i)) k))), some (.int (nI k)), a14, a15] [.int v] := by
            intro v hv a14 a15 sh sz V cu su hA hb
            subst hv
            obtain ⟨hkd, ⟨w0, w1, w2, ew⟩, y0, y1, y2, ey0⟩ := hT k hk4
            obtain ⟨f1, f2⟩ := fp_bud w0 (by omega) y0 (by omega)
            have ewt : tkV S.1 c k (nI 1) = nI w0 := ew
            have eyt : tkV S.1 c k (nI 2) = nI y0 := ey0
            refine g_istore dL_sums_144 (by decide) rfl ?_
            show G _ _ _ _ _ _ _ _ _ [_, _, _, _, _, _, _, _, _, _, _, _, _, _, _, _] _
            refine g_aload_n dL_sums_146 rfl ?_
            refine g_iload dL_sums_147 rfl ?_
            refine g_iload dL_sums_149 rfl ?_
            refine g_iconst (v := nI 1) dL_sums_151 (by decide) ?_
            refine g_lcH 1 (M := ML_sums) (pc := 152) (Y := YL_truckOf) (gIn_SH ml_L_226 wt_L_truckOf ini_L wc_L_truckOf) yn_L_truckOf dL_sums_152 hb (lRm_of rfl (rm_c (by show _ ≤ 320; omega) (Nat.le_of_ble_eq_true rfl))) (l_truckOf (w := 1) hA hc4 hk4 (by decide) ewt) rfl rfl (Nat.le_of_ble_eq_true rfl) ?_
            intro sh sz V cu su hA hb
            refine g_i2f dL_sums_155 ?_
            refine g_fstore dL_sums_156 (by decide) rfl ?_
            show G _ _ _ _ _ _ _ _ _ [_, _, _, _, _, _, _, _, _, _, _, _, _, _, _, _] _
            refine g_aload_n dL_sums_158 rfl ?_
            refine g_iload dL_sums_159 rfl ?_
            refine g_iload dL_sums_161 rfl ?_
            refine g_iconst (v := nI 0) dL_sums_163 (by decide) ?_
            refine g_lcH 1 (M := ML_sums) (pc := 164) (Y := YL_truckOf) (gIn_SH ml_L_226 wt_L_truckOf ini_L wc_L_truckOf) yn_L_truckOf dL_sums_164 hb (lRm_of rfl (rm_c (by show _ ≤ 320; omega) (Nat.le_of_ble_eq_true rfl))) (l_truckOf (w := 0) hA hc4 hk4 (by decide) (v := (tkF S.1 c k).1) rfl) rfl rfl (Nat.le_of_ble_eq_true rfl) ?_
            intro sh sz V cu su hA hb
            refine g_iconst (v := nI 1) dL_sums_167 (by decide) ?_
            refine g_icmp_ne (tgt := 190) dL_sums_168 (by decide) (fun b1 => ?_) (fun b1 => ?_)
            · refine g_fload dL_sums_190 rfl ?_
              have e0 : (tkF S.1 c k).1 = 0 := by
                rcases hkd with q | q
                · rw [q]; exact nI_0
                · exact absurd q b1
              exact (J192 _ (by unfold bud; rw [if_pos e0, ew]) _).go hA hb (by omega)
            · refine g_fload dL_sums_171 rfl ?_
              refine g_ldcf kc_L_228 dL_sums_173 ?_
              refine g_aload_n dL_sums_175 rfl ?_
              refine g_iload dL_sums_176 rfl ?_
              refine g_iload dL_sums_178 rfl ?_
              refine g_iconst (v := nI 2) dL_sums_180 (by decide) ?_
              refine g_lcH 1 (M := ML_sums) (pc := 181) (Y := YL_truckOf) (gIn_SH ml_L_226 wt_L_truckOf ini_L wc_L_truckOf) yn_L_truckOf dL_sums_181 hb (lRm_of rfl (rm_c (by show _ ≤ 320; omega) (Nat.le_of_ble_eq_true rfl))) (l_truckOf (w := 2) hA hc4 hk4 (by decide) eyt) rfl rfl (Nat.le_of_ble_eq_true rfl) ?_
              intro sh sz V cu su hA hb
              refine g_i2f dL_sums_184 ?_
              refine g_fmul dL_sums_185 f1 ?_
              refine g_fadd dL_sums_186 f2 ?_
              refine g_jump (tgt := 192) dL_sums_187 (by decide) ?_
              exact (J192 _ (by unfold bud; rw [if_neg (by rw [b1]; decide), ew, ey0]) _).go hA hb (by omega)
          intro a14 a15 sh sz V cu su hA hb
          refine g_iload dL_sums_108 rfl ?_
          refine g_aload_n dL_sums_110 rfl ?_
          refine g_iload dL_sums_111 rfl ?_
          refine g_iconst (v := nI 1) dL_sums_113 (by decide) ?_
          refine g_lcH 1 (M := ML_sums) (pc := 114) (Y := YL_convoyOf) (gIn_SH ml_L_224 wt_L_convoyOf ini_L wc_L_convoyOf) yn_L_convoyOf dL_sums_114 hb (lRm_of rfl (rm_c (by show _ ≤ 320; omega) (Nat.le_of_ble_eq_true rfl))) (l_convoyOf (w := 1) hA hc4 (by decide) (cvV1 hI hc4)) rfl rfl (Nat.le_of_ble_eq_true rfl) ?_
          intro sh sz V cu su hA hb
          refine g_icmp_ge (tgt := 329) dL_sums_117 (by decide) (fun hq => absurd hq (nI_ge (by omega) (by omega))) (fun _ => ?_)
          refine g_iload dL_sums_120 rfl ?_
          refine g_if_ge (tgt := 129) dL_sums_122 (by decide) (fun b1 => ?_) (fun b1 => ?_)
          · refine g_iload dL_sums_129 rfl ?_
            refine g_iload dL_sums_131 rfl ?_
            refine g_iconst (v := nI 1) dL_sums_133 (by decide) ?_
            refine g_aload_n dL_sums_134 rfl ?_
            refine g_iload dL_sums_135 rfl ?_
            refine g_iconst (v := nI 0) dL_sums_137 (by decide) ?_
            refine g_lcH 1 (M := ML_sums) (pc := 138) (Y := YL_convoyOf) (gIn_SH ml_L_224 wt_L_convoyOf ini_L wc_L_convoyOf) yn_L_convoyOf dL_sums_138 hb (lRm_of rfl (rm_c (by show _ ≤ 320; omega) (Nat.le_of_ble_eq_true rfl))) (l_convoyOf (w := 0) hA hc4 (by decide) (v := S.1 (oC c 0)) rfl) rfl rfl (Nat.le_of_ble_eq_true rfl) ?_
            intro sh sz V cu su hA hb
            refine g_iadd dL_sums_141 ?_
            refine g_imul dL_sums_142 ?_
            refine g_isub dL_sums_143 ?_
            exact (J144 _ (by rw [mt_st b1]; unfold mw; rw [Int32.add_comm (nI 1)]) _ _).go hA hb (by omega)
          · refine g_iconst (v := (-1)) dL_sums_125 (by decide) ?_
            refine g_jump (tgt := 144) dL_sums_126 (by decide) ?_
            exact (J144 _ (mt_ns b1).symm _ _).go hA hb (by omega)
      intro a10 a11 a12 a13 a14 a15 sh sz V cu su hA hb
      refine g_iload dL_sums_80 rfl ?_
      refine g_aload_n dL_sums_82 rfl ?_
      refine g_iconst (v := nI 2) dL_sums_83 (by decide) ?_
      refine g_lcV 1 (M := ML_sums) (pc := 84) (Y := YX6_account) sv_L_182 rfl yn_X6_account 8 (by decide) rfl rfl dL_sums_84 hb (lRm_of rfl (rm_c (by show _ ≤ 320; omega) (Nat.le_of_ble_eq_true rfl))) (k_account (w := 2) hA (by decide) (acc2 hI)) hA.s9 rfl rfl (Nat.le_of_ble_eq_true rfl) ?_
      intro sh sz V cu su hA hb
      refine g_icmp_ge (tgt := 454) dL_sums_87 (by decide) (fun hq => absurd hq (nI_ge (by omega) (by omega))) (fun _ => ?_)
      refine g_aload_n dL_sums_90 rfl ?_
      refine g_iload dL_sums_91 rfl ?_
      refine g_iconst (v := nI 2) dL_sums_93 (by decide) ?_
      refine g_lcH 1 (M := ML_sums) (pc := 94) (Y := YL_convoyOf) (gIn_SH ml_L_224 wt_L_convoyOf ini_L wc_L_convoyOf) yn_L_convoyOf dL_sums_94 hb (lRm_of rfl (rm_c (by show _ ≤ 320; omega) (Nat.le_of_ble_eq_true rfl))) (l_convoyOf (w := 2) hA hc4 (by decide) (v := S.1 (oC c 2)) rfl) rfl rfl (Nat.le_of_ble_eq_true rfl) ?_
      intro sh sz V cu su hA hb
      refine g_istore dL_sums_97 (by decide) rfl ?_
      show G _ _ _ _ _ _ _ _ _ [_, _, _, _, _, _, _, _, _, _, _, _, _, _, _, _] _
      refine g_iconst (v := nI 0) dL_sums_99 (by decide) ?_
      refine g_istore dL_sums_100 (by decide) rfl ?_
      show G _ _ _ _ _ _ _ _ _ [_, _, _, _, _, _, _, _, _, _, _, _, _, _, _, _] _
      refine g_iconst (v := nI 0) dL_sums_102 (by decide) ?_
      refine g_istore dL_sums_103 (by decide) rfl ?_
      show G _ _ _ _ _ _ _ _ _ [_, _, _, _, _, _, _, _, _, _, _, _, _, _, _, _] _
      refine g_iconst (v := nI 0) dL_sums_105 (by decide) ?_
      refine g_istore dL_sums_106 (by decide) rfl ?_
      show G _ _ _ _ _ _ _ _ _ [_, _, _, _, _, _, _, _, _, _, _, _, _, _, _, _] _
      have e3 : TW S.1 c = TW S.1 c + sI (uwF S.1 c) 0 := (add_nI0 _).symm
      have e5 : BR S.1 c = BR S.1 c + sI (bwF S.1 c) 0 := (add_nI0 _).symm
      rw [e3, e5]
      exact (K108 (ncv S.1 c) 0 (by omega) th hoc _ _).go hA hb (by omega)
  have K12 : ∀ (d i : Nat), i + d = 10 → ∀ a5, GL E ML_sums (PLs x A sz S (.int (nI 1))) x S ((t, (20, 12), fun _ => .int 0) :: A) sz (2 + i) 12 [some (.ref x), some (.ref t), some (.int (sI (fun k => bi (¬ S.1 (oR k) = 0)) i)), some (.int (sI (fun k => S.1 (oR k)) i)), some (.int (nI i)), a5, none, none, none, none, none, none, none, none, none, none] [] := by
    intro d
    induction d with
    | zero =>
      intro i hi a5 sh sz V cu su hA hb
      obtain rfl : i = 10 := by omega
      refine g_iload dL_sums_12 rfl ?_
      refine g_bipush (v := nI 10) dL_sums_14 (by decide) ?_
      refine g_icmp_ge (tgt := 62) dL_sums_16 (by decide) (fun _ => ?_) (fun hq => absurd (Int32.le_refl _) hq)
      refine g_iconst (v := nI 0) dL_sums_62 (by decide) ?_
      refine g_istore dL_sums_63 (by decide) rfl ?_
      show G _ _ _ _ _ _ _ _ _ [_, _, _, _, _, _, _, _, _, _, _, _, _, _, _, _] _
      refine g_iconst (v := nI 0) dL_sums_65 (by decide) ?_
      refine g_istore dL_sums_66 (by decide) rfl ?_
      show G _ _ _ _ _ _ _ _ _ [_, _, _, _, _, _, _, _, _, _, _, _, _, _, _, _] _
      refine g_iconst (v := nI 0) dL_sums_68 (by decide) ?_
      refine g_istore dL_sums_69 (by decide) rfl ?_
      show G _ _ _ _ _ _ _ _ _ [_, _, _, _, _, _, _, _, _, _, _, _, _, _, _, _] _
      refine g_iconst (v := nI 0) dL_sums_71 (by decide) ?_
      refine g_istore dL_sums_72 (by decide) rfl ?_
      show G _ _ _ _ _ _ _ _ _ [_, _, _, _, _, _, _, _, _, _, _, _, _, _, _, _] _
      refine g_iconst (v := nI 0) dL_sums_74 (by decide) ?_
      refine g_istore dL_sums_75 (by decide) rfl ?_
      show G _ _ _ _ _ _ _ _ _ [_, _, _, _, _, _, _, _, _, _, _, _, _, _, _, _] _
      refine g_iconst (v := nI 0) dL_sums_77 (by decide) ?_
      refine g_istore dL_sums_78 (by decide) rfl ?_
      show G _ _ _ _ _ _ _ _ _ [_, _, _, _, _, _, _, _, _, _, _, _, _, _, _, _] _
      have e3 : sI (fun k => S.1 (oR k)) 10 = TW S.1 0 := (add_nI0 _).symm
      rw [e3]
      exact (K80 (cnt S.1) 0 (by omega) (fun _ => 0) Oc_0 _ _ _ _ _ _).go hA hb (by omega)
    | succ d ih =>
      intro i hi
      have hi10 : i < 10 := by omega
      obtain ⟨r1, r2⟩ := row_pos hI hi10
      have J45 : ∀ v, v = bi (¬ S.1 (oR i) = 0) → GL E ML_sums (PLs x A sz S (.int (nI 1))) x S ((t, (20, 12), fun _ => .int 0) :: A) sz (2 + i + 1) 45 [some (.ref x), some (.ref t), some (.int (sI (fun k => bi (¬ S.1 (oR k) = 0)) i)), some (.int (sI (fun k => S.1 (oR k)) i)), some (.int (nI i)), some (.int (rowV S.1 i 0)), none, none, none, none, none, none, none, none, none, none] [.int v, .int (sI (fun k => bi (¬ S.1 (oR k) = 0)) i)] := by
        intro v hv sh sz V cu su hA hb
        subst hv
        refine g_iadd dL_sums_45 ?_
        refine g_istore_n dL_sums_46 (by decide) rfl ?_
        show G _ _ _ _ _ _ _ _ _ [_, _, _, _, _, _, _, _, _, _, _, _, _, _, _, _] _
        refine g_iload_n dL_sums_47 rfl ?_
        refine g_iconst (v := nI 0) dL_sums_48 (by decide) ?_
        refine g_iload dL_sums_49 rfl ?_
        refine g_mmax ml_L_219 wm_mmax_s wm_ini wm_mmax_c dL_sums_51 (Nat.le_of_ble_eq_true rfl) (Nat.le_of_ble_eq_true rfl) ⟨by show cu ≤ 320; omega, by show su ≤ 1920; omega⟩ ?_
        rw [r2]
        refine g_iadd dL_sums_54 ?_
        refine g_istore_n dL_sums_55 (by decide) rfl ?_
        show G _ _ _ _ _ _ _ _ _ [_, _, _, _, _, _, _, _, _, _, _, _, _, _, _, _] _
        refine g_iinc dL_sums_56 rfl (by first | exact nI_inc _ | rfl) (by decide) rfl ?_
        show G _ _ _ _ _ _ _ _ _ [_, _, _, _, _, _, _, _, _, _, _, _, _, _, _, _] _
        refine g_jump (tgt := 12) dL_sums_59 (by decide) ?_
        exact (ih (i + 1) (by omega) _).go hA hb (by omega)
      intro a5 sh sz V cu su hA hb
      refine g_iload dL_sums_12 rfl ?_
      refine g_bipush (v := nI 10) dL_sums_14 (by decide) ?_
      refine g_icmp_ge (tgt := 62) dL_sums_16 (by decide) (fun hq => absurd hq (nI_ge (by omega) (by decide))) (fun _ => ?_)
      refine g_aload_n dL_sums_19 rfl ?_
      refine g_iload dL_sums_20 rfl ?_
      refine g_iconst (v := nI 5) dL_sums_22 (by decide) ?_
      refine g_idiv dL_sums_23 (by decide) ?_
      refine g_iload dL_sums_24 rfl ?_
      refine g_iconst (v := nI 5) dL_sums_26 (by decide) ?_
      refine g_irem dL_sums_27 (by decide) ?_
      refine g_iconst (v := nI 0) dL_sums_28 (by decide) ?_
      rw [pk_div (by omega) (by decide) (by decide)]
      rw [show nI i - nI (i / 5) * nI 5 = nI (i % 5) by rw [← pk_div (by omega) (by decide) (by decide)]; exact pk_rem (by omega) (by decide) (by decide)]
      refine g_lcH 1 (M := ML_sums) (pc := 29) (Y := YL_inRow) (gIn_SH ml_L_217 wt_L_inRow ini_L wc_L_inRow) yn_L_inRow dL_sums_29 hb (lRm_of rfl (rm_c (by show _ ≤ 320; omega) (Nat.le_of_ble_eq_true rfl))) (l_inRow (k := i) (w := 0) hA hi10 (by decide) rfl) rfl rfl (Nat.le_of_ble_eq_true rfl) ?_
      intro sh sz V cu su hA hb
      refine g_istore dL_sums_32 (by decide) rfl ?_
      show G _ _ _ _ _ _ _ _ _ [_, _, _, _, _, _, _, _, _, _, _, _, _, _, _, _] _
      refine g_iload_n dL_sums_34 rfl ?_
      refine g_iload dL_sums_35 rfl ?_
      refine g_if_le (tgt := 44) dL_sums_37 (by decide) (fun b1 => ?_) (fun b1 => ?_)
      · refine g_iconst (v := nI 0) dL_sums_44 (by decide) ?_
        exact (J45 _ (bi_f (fun q => absurd (r1.mpr q) (Int32.not_lt.mpr b1))).symm).go hA hb (by omega)
      · refine g_iconst (v := nI 1) dL_sums_40 (by decide) ?_
        refine g_jump (tgt := 45) dL_sums_41 (by decide) ?_
        exact (J45 _ (bi_t (r1.mp (Int32.not_le.mp b1))).symm).go hA hb (by omega)
  subst ht
  refine MC.of RL "sums" rfl (by decide +kernel) rfl 15 [_, none, none, none, none, none, none, none, none, none, none, none, none, none, none, none] rfl (Nat.le_of_ble_eq_true rfl) ?_
  show G E ML_sums _ _ _ _ _ _ _ _ _
  have hA0 := hA.new (t := (20, 12)) (F := fun _ => defaultValue (gty 20))
  refine g_bipush (v := nI 12) dL_sums_0 (by decide) ?_
  refine g_newa 20 (atype := .int) rfl (by decide) (by decide) arr_int 12 (by decide) (by decide) (Nat.le_of_ble_eq_true rfl) dL_sums_2 ⟨Nat.le_of_ble_eq_true rfl, Nat.le_of_ble_eq_true rfl⟩ ?_
  refine g_astore_n dL_sums_4 (by decide) rfl ?_
  show G _ _ _ _ _ _ _ _ _ [_, _, _, _, _, _, _, _, _, _, _, _, _, _, _, _] _
  refine g_iconst (v := nI 0) dL_sums_5 (by decide) ?_
  refine g_istore_n dL_sums_6 (by decide) rfl ?_
  show G _ _ _ _ _ _ _ _ _ [_, _, _, _, _, _, _, _, _, _, _, _, _, _, _, _] _
  refine g_iconst (v := nI 0) dL_sums_7 (by decide) ?_
  refine g_istore_n dL_sums_8 (by decide) rfl ?_
  show G _ _ _ _ _ _ _ _ _ [_, _, _, _, _, _, _, _, _, _, _, _, _, _, _, _] _
  refine g_iconst (v := nI 0) dL_sums_9 (by decide) ?_
  refine g_istore dL_sums_10 (by decide) rfl ?_
  show G _ _ _ _ _ _ _ _ _ [_, _, _, _, _, _, _, _, _, _, _, _, _, _, _, _] _
  exact (K12 10 0 rfl _).go (u := 2) hA0 ⟨Nat.le_succ _, Nat.le_of_ble_eq_true rfl, Nat.le_of_ble_eq_true rfl⟩ (by omega)
end LSUMS

