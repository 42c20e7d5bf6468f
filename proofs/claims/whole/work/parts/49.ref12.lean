/-! the reference: trucks and convoys come -/
section REF12
variable {E : gE} {M : gM} {P : gP} {sh : Sh} {sz : Nat} {V V' V1 V2 : Vl} {cu su pc : Nat} {L : List (Option Value)} {rest : List Value} {m : Nat} {f g b : Fl} {th r : Int32} {S : St}
/-- a call that throws behind its keeping -/
theorem RI.no2 {k : Nat} {v : Value} (hP : RI sh m sz V (k + 1, v, S) P) (hw : Mf V V1 m) (hM : MB sh V1 m S.1 th r S) : P (.inl (some (.int (nI 0)))) sh sz (hu V1 m 7 (.int (nI (k + 1)))) := hP _ (nI 0) (fun a ha => (hu_ne _ _ _ (by omega)).trans (hw a ha)) (fun z => absurd z (Nat.succ_ne_zero k)) ⟨r, hM.thr⟩
theorem RI.ref2 {k : Nat} {v : Value} {z : Int32 × Int32} (hP : RI sh m sz V (k + 1, v, refu S z) P) (hw : Mf V V1 m) : ∀ V2, (∀ a, a ≠ m → V2 a = V1 a) → MB sh V2 m S.1 (nI (k + 1)) (nI 1) (refu S z) → P (.inl (some (.int (nI 0)))) sh sz V2 := fun V2 h1 h2 => hP _ (nI 0) (fun a ha => (h1 a (by omega)).trans (hw a ha)) (fun z => absurd z (Nat.succ_ne_zero k)) ⟨_, h2⟩
/-- .. or goes on to its end -/
theorem RI.yes2 {w : Int32} (hP : RI sh m sz V (0, .int w, push S g) P) : ∀ V2, Mf V V2 m → MB sh V2 m g (nI 0) r (pst S S.1) → P (.inl (some (.int w))) sh sz V2 := fun V2 h1 h2 => hP _ w h1 (fun _ => rfl) ⟨r, h2⟩
set_option maxRecDepth 100000 in
theorem r_truck {kd w ax y : Int32} (h : MS sh V m S th) (hI : InvB S.1) (hP : RI sh m sz V (sp_truck S kd w ax y) P) : MC E YX7_truck [.ref m, .int kd, .int w, .int ax, .int y] sh sz V P := by
  obtain ⟨r, hB⟩ := h
  have h0 := hB.1.1
  unfold sp_truck at hP
  refine MC.of RX7 "truck" rfl (by decide +kernel) rfl 1 [_, _, _, _, _, none] rfl (Nat.le_of_ble_eq_true rfl) ?_
  show G E MX7_truck _ _ _ _ _ _ _ _ _
  refine g_aload_n dX7_truck_0 rfl ?_
  refine g_callVv (Y := YX7_keep) (Q := (fun V1 => (∀ a, a ≠ m → a ≠ m + 2 → V1 a = V a) ∧ (∀ j, j ≠ 7 → V1 m j = V m j) ∧ MB sh V1 m S.1 0 r S ∧ Bk V1 m S.1)) sv_X7_92 rfl yn_X7_keep 9 (by decide) rfl rfl dX7_truck_1 (k_keep hB (fun V' a b c d => ⟨rfl, rfl, rfl, a, b, c, d⟩)) h0 rfl rfl rfl (Nat.le_of_ble_eq_true rfl) ⟨rfl, rfl⟩ (fun V1 q => ?_)
  obtain ⟨w1, w2, w3, w4⟩ := q
  have hw := Mf.o1 w1
  have hS := w3.1
  have e1 : bi (nI 0 ≤ y ∧ y ≤ nI 1) = bi (isR y) := bi_iff ⟨fun q => ⟨q.1, (le_lt (by decide)).mp q.2⟩, fun q => ⟨q.1, (le_lt (by decide)).mpr q.2⟩⟩
  refine g_iload dX7_truck_4 rfl ?_
  refine g_iconst (v := nI 0) dX7_truck_6 (by decide) ?_
  refine g_iconst (v := nI 1) dX7_truck_7 (by decide) ?_
  refine g_callSp (Y := YX7_in) ss_X7_84 yn_X7_in dX7_truck_8 (k_in pR_ok) rfl rfl rfl (Nat.le_of_ble_eq_true rfl) ⟨rfl, rfl⟩ ?_
  rw [e1]
  refine g_if_ne (tgt := 20) dX7_truck_11 (by decide) (fun b1 => ?_) (fun b1 => ?_)
  rotate_left
  · rw [if_neg (bi_eq b1)] at hP
    refine g_aload_n dX7_truck_14 rfl ?_
    refine g_iconst (v := nI 1) dX7_truck_15 (by decide) ?_
    refine g_callVw (Y := YX7_fails) sv_X7_88 rfl yn_X7_fails 9 (by decide) rfl rfl dX7_truck_16 (k_fails (P := pW (fun v V' => v = .int (nI 0) ∧ V' = hu V1 m 7 (.int (nI 1))) sh sz) h0 ⟨_, rfl, rfl, rfl, rfl, rfl⟩) h0 rfl rfl rfl (Nat.le_of_ble_eq_true rfl) ⟨rfl, rfl⟩ (fun v V' q => ?_)
    obtain ⟨rfl, rfl⟩ := q
    exact g_iret rfl (nr_int _) dX7_truck_19 (by decide) (hP.no2 hw w3)
  rw [if_pos (bi_ne b1)] at hP
  obtain ⟨a, ha, rfl⟩ := in_nI (bi_ne b1).1 (bi_ne b1).2 (by decide)
  rw [nI_clamp (by omega)] at hP
  have bad : ¬ isTk kd w ax → G E MX7_truck P sh sz V1 0 0 49 [some (.ref m), some (.int kd), some (.int w), some (.int ax), some (.int (nI a)), none] [] := by
    intro q
    rw [if_neg q] at hP
    refine g_aload_n dX7_truck_49 rfl ?_
    refine g_iconst (v := nI 2) dX7_truck_50 (by decide) ?_
    refine g_callVw (Y := YX7_fails) sv_X7_88 rfl yn_X7_fails 9 (by decide) rfl rfl dX7_truck_51 (k_fails (P := pW (fun v V' => v = .int (nI 0) ∧ V' = hu V1 m 7 (.int (nI 2))) sh sz) h0 ⟨_, rfl, rfl, rfl, rfl, rfl⟩) h0 rfl rfl rfl (Nat.le_of_ble_eq_true rfl) ⟨rfl, rfl⟩ (fun v V' q => ?_)
    obtain ⟨rfl, rfl⟩ := q
    exact g_iret rfl (nr_int _) dX7_truck_54 (by decide) (hP.no2 hw w3)
  refine g_iload_n dX7_truck_20 rfl ?_
  refine g_iconst (v := nI 0) dX7_truck_21 (by decide) ?_
  refine g_iconst (v := nI 1) dX7_truck_22 (by decide) ?_
  refine g_callSp (Y := YX7_in) ss_X7_84 yn_X7_in dX7_truck_23 (k_in pR_ok) rfl rfl rfl (Nat.le_of_ble_eq_true rfl) ⟨rfl, rfl⟩ ?_
  refine g_if_eq (tgt := 49) dX7_truck_26 (by decide) (fun c1 => ?_) (fun c1 => ?_)
  · exact bad (fun q => bi_eq c1 q.1)
  refine g_iload_n dX7_truck_29 rfl ?_
  refine g_iconst (v := nI 5) dX7_truck_30 (by decide) ?_
  refine g_bipush (v := nI 60) dX7_truck_31 (by decide) ?_
  refine g_callSp (Y := YX7_in) ss_X7_84 yn_X7_in dX7_truck_33 (k_in pR_ok) rfl rfl rfl (Nat.le_of_ble_eq_true rfl) ⟨rfl, rfl⟩ ?_
  refine g_if_eq (tgt := 49) dX7_truck_36 (by decide) (fun c2 => ?_) (fun c2 => ?_)
  · exact bad (fun q => bi_eq c2 q.2.1)
  refine g_iload_n dX7_truck_39 rfl ?_
  refine g_iconst (v := nI 2) dX7_truck_40 (by decide) ?_
  refine g_bipush (v := nI 6) dX7_truck_41 (by decide) ?_
  refine g_callSp (Y := YX7_in) ss_X7_84 yn_X7_in dX7_truck_43 (k_in pR_ok) rfl rfl rfl (Nat.le_of_ble_eq_true rfl) ⟨rfl, rfl⟩ ?_
  refine g_if_ne (tgt := 55) dX7_truck_46 (by decide) (fun c3 => ?_) (fun c3 => ?_)
  rotate_left
  · exact bad (fun q => bi_eq c3 q.2.2)
  have tk : isTk kd w ax := ⟨bi_ne c1, bi_ne c2, bi_ne c3⟩
  rw [if_pos tk] at hP
  refine g_iconst (v := nI 0) dX7_truck_55 (by decide) ?_
  refine g_istore dX7_truck_56 (by decide) rfl ?_
  show G _ _ _ _ _ _ _ _ _ [_, _, _, _, _, _] _
  -- behind the search
  have found : ∀ n, n ≤ 5 → (∀ j, j < n → ¬ S.1 (oR (a * 5 + j)) = 0) → (n < 5 → S.1 (oR (a * 5 + n)) = 0) → G E MX7_truck P sh sz V1 0 0 85 [some (.ref m), some (.int kd), some (.int w), some (.int ax), some (.int (nI a)), some (.int (nI n))] [] := by
    intro n hn5 hno hyes
    refine g_iload dX7_truck_85 rfl ?_
    refine g_iconst (v := nI 5) dX7_truck_87 (by decide) ?_
    refine g_icmp_ne (tgt := 100) dX7_truck_88 (by decide) (fun d1 => ?_) (fun d1 => ?_)
    rotate_left
    · have hn : n = 5 := (nI_eq (by omega) (by decide)).mp d1
      have ef : freeF S.1 a = -1 := fstI_none (fun k hk => decide_eq_false (hno k (by omega)))
      rw [ef, if_pos (by decide)] at hP
      refine g_aload_n dX7_truck_91 rfl ?_
      refine g_iconst (v := nI 3) dX7_truck_92 (by decide) ?_
      refine g_iconst (v := nI 2) dX7_truck_93 (by decide) ?_
      refine g_iload dX7_truck_94 rfl ?_
      refine g_callVw (Y := YX7_refuse) sv_X7_126 rfl yn_X7_refuse 9 (by decide) rfl rfl dX7_truck_96 (k_refuse (P := pW (fun v V' => v = .int (nI 0) ∧ P (.inl (some (.int (nI 0)))) sh sz V') sh sz) w3 (fun V' q1 q2 q3 => ⟨_, rfl, rfl, rfl, rfl, hP.ref2 hw V' q1 q3⟩)) h0 rfl rfl rfl (Nat.le_of_ble_eq_true rfl) ⟨rfl, rfl⟩ (fun v V' q => ?_)
      obtain ⟨rfl, q⟩ := q
      exact g_iret rfl (nr_int _) dX7_truck_99 (by decide) q
    have hn : n < 5 := by
      rcases Nat.lt_or_ge n 5 with q | q
      · exact q
      · exact absurd (by rw [show n = 5 by omega]) d1
    have ef : freeF S.1 a = nI n := fstI_eq hn (decide_eq_true (hyes hn)) (fun k hk => decide_eq_false (hno k hk))
    rw [ef, if_neg (nI_pos (by omega)), nI_clamp (by omega)] at hP
    refine g_iload_n dX7_truck_100 rfl ?_
    refine g_iload dX7_truck_101 rfl ?_
    refine g_icmp_eq (tgt := 115) dX7_truck_103 (by decide) (fun d2 => ?_) (fun d2 => ?_)
    rotate_left
    · rw [if_neg d2] at hP
      refine g_aload_n dX7_truck_106 rfl ?_
      refine g_iconst (v := nI 3) dX7_truck_107 (by decide) ?_
      refine g_iconst (v := nI 3) dX7_truck_108 (by decide) ?_
      refine g_iload dX7_truck_109 rfl ?_
      refine g_callVw (Y := YX7_refuse) sv_X7_126 rfl yn_X7_refuse 9 (by decide) rfl rfl dX7_truck_111 (k_refuse (P := pW (fun v V' => v = .int (nI 0) ∧ P (.inl (some (.int (nI 0)))) sh sz V') sh sz) w3 (fun V' q1 q2 q3 => ⟨_, rfl, rfl, rfl, rfl, hP.ref2 hw V' q1 q3⟩)) h0 rfl rfl rfl (Nat.le_of_ble_eq_true rfl) ⟨rfl, rfl⟩ (fun v V' q => ?_)
      obtain ⟨rfl, q⟩ := q
      exact g_iret rfl (nr_int _) dX7_truck_114 (by decide) q
    rw [if_pos d2] at hP
    refine g_aload_n dX7_truck_115 rfl ?_
    refine g_get 9 rfl (by decide) inX7 0 (by decide) fl_X7_9 dX7_truck_116 h0 hS.2.2.1 ?_
    refine g_iload dX7_truck_119 rfl ?_
    refine g_iload dX7_truck_121 rfl ?_
    refine g_callSp (Y := YX7_placeIn) ss_X7_123 yn_X7_placeIn dX7_truck_123 (k_placeIn pR_ok) rfl rfl rfl (Nat.le_of_ble_eq_true rfl) ⟨rfl, rfl⟩ ?_
    refine g_iload_n dX7_truck_126 rfl ?_
    refine g_iastore dX7_truck_127 hS.2.1 (vp_in_nI (by unfold oR; omega) (by decide)) ?_
    rw [nI_clamp (by unfold oR; omega)]
    have hS2 := SA.wr (k := oR (a * 5 + n)) (x := w) hS
    have hw2 := (Mw.rf (V := V1) (m := m)).put (k := oR (a * 5 + n)) (v := .int w)
    generalize hu V1 (m + 1) (oR (a * 5 + n)) (.int w) = V2 at hS2 hw2 ⊢
    refine g_aload_n dX7_truck_128 rfl ?_
    refine g_get 9 rfl (by decide) inX7 0 (by decide) fl_X7_9 dX7_truck_129 h0 hS2.2.2.1 ?_
    refine g_iload dX7_truck_132 rfl ?_
    refine g_iload dX7_truck_134 rfl ?_
    refine g_callSp (Y := YX7_placeIn) ss_X7_123 yn_X7_placeIn dX7_truck_136 (k_placeIn pR_ok) rfl rfl rfl (Nat.le_of_ble_eq_true rfl) ⟨rfl, rfl⟩ ?_
    refine g_iconst (v := nI 1) dX7_truck_139 (by decide) ?_
    refine g_iadd dX7_truck_140 ?_
    refine g_iload_n dX7_truck_141 rfl ?_
    rw [nI_add]
    refine g_iastore dX7_truck_142 hS2.2.1 (vp_in_nI (by unfold oR; omega) (by decide)) ?_
    rw [nI_clamp (by unfold oR; omega)]
    have hS3 := SA.wr (k := oR (a * 5 + n) + 1) (x := ax) hS2
    have hw3 := hw2.put (k := oR (a * 5 + n) + 1) (v := .int ax)
    have r3 := hS3.rd (k := 3) (by decide)
    rw [pk_un (by unfold oR; omega), pk_un (by unfold oR; omega)] at r3
    generalize hu V2 (m + 1) (oR (a * 5 + n) + 1) (.int ax) = V3 at hS3 hw3 r3 ⊢
    refine g_aload_n dX7_truck_143 rfl ?_
    refine g_get 9 rfl (by decide) inX7 0 (by decide) fl_X7_9 dX7_truck_144 h0 hS3.2.2.1 ?_
    refine g_iconst (v := nI 3) dX7_truck_147 (by decide) ?_
    refine g_dup2 dX7_truck_148 rfl rfl ?_
    refine g_iaload dX7_truck_149 hS3.2.1 (vp_in_nI (by decide) (by decide)) r3 ?_
    refine g_iload_n dX7_truck_150 rfl ?_
    refine g_iadd dX7_truck_151 ?_
    refine g_iastore dX7_truck_152 hS3.2.1 (vp_in_nI (by decide) (by decide)) ?_
    rw [show (nI 3).toNatClampNeg = 3 from rfl]
    have hS4 : SA sh (hu V3 (m + 1) 3 (.int (S.1 3 + w))) m (trF S.1 (a * 5 + n) w ax) := SA.wr (k := 3) (x := S.1 3 + w) hS3
    have hw4 := hw3.put (k := 3) (v := .int (S.1 3 + w))
    generalize hu V3 (m + 1) 3 (.int (S.1 3 + w)) = V4 at hS4 hw4 ⊢
    have hM := w3.row hw4 hS4
    have hb : Bk V4 m S.1 := fun k hk => by rw [hw4 _ (by omega)]; exact w4 k hk
    refine g_aload_n dX7_truck_153 rfl ?_
    refine g_iload dX7_truck_154 rfl ?_
    refine g_callVw (Y := YX7_ends) sv_X7_98 rfl yn_X7_ends 9 (by decide) rfl rfl dX7_truck_156 (k_ends (P := pW (fun v V5 => P (.inl (some v)) sh sz V5 ∧ ∃ x, v = .int x) sh sz) hM hb (fun hq0 V3 a b => absurd hq0 (by decide)) (fun hq0 V5 a b => ⟨_, rfl, rfl, rfl, hP.yes2 V5 ((hw.trans (fun x hx => hw4 x (by omega))).trans a) b, _, rfl⟩)) h0 rfl rfl rfl (Nat.le_of_ble_eq_true rfl) ⟨rfl, rfl⟩ (fun v V5 q => ?_)
    obtain ⟨q, x, rfl⟩ := q
    exact g_iret rfl (nr_int _) dX7_truck_159 (by decide) q
  suffices K : ∀ (d i : Nat), i + d = 5 → (∀ j, j < i → ¬ S.1 (oR (a * 5 + j)) = 0) → G E MX7_truck P sh sz V1 0 0 58 [some (.ref m), some (.int kd), some (.int w), some (.int ax), some (.int (nI a)), some (.int (nI i))] [] from K 5 0 rfl (fun j hj => absurd hj (Nat.not_lt_zero j))
  intro d
  induction d with
  | zero =>
    intro i hi hno
    have fo := found i (by omega) hno (fun q => absurd q (by omega))
    have hi : i = 5 := by omega
    subst hi
    refine g_iload dX7_truck_58 rfl ?_
    refine g_iconst (v := nI 5) dX7_truck_60 (by decide) ?_
    refine g_icmp_ge (tgt := 85) dX7_truck_61 (by decide) (fun _ => ?_) (fun hq => absurd (Int32.le_refl _) hq)
    exact fo
  | succ d ih =>
    intro i hi hno
    have hp := row_pos hI (k := a * 5 + i) (by omega)
    refine g_iload dX7_truck_58 rfl ?_
    refine g_iconst (v := nI 5) dX7_truck_60 (by decide) ?_
    refine g_icmp_ge (tgt := 85) dX7_truck_61 (by decide) (fun hq => absurd hq (nI_ge (by omega) (by omega))) (fun _ => ?_)
    refine g_aload_n dX7_truck_64 rfl ?_
    refine g_get 9 rfl (by decide) inX7 0 (by decide) fl_X7_9 dX7_truck_65 h0 hS.2.2.1 ?_
    refine g_iload dX7_truck_68 rfl ?_
    refine g_iload dX7_truck_70 rfl ?_
    refine g_callSp (Y := YX7_placeIn) ss_X7_123 yn_X7_placeIn dX7_truck_72 (k_placeIn pR_ok) rfl rfl rfl (Nat.le_of_ble_eq_true rfl) ⟨rfl, rfl⟩ ?_
    refine g_iaload dX7_truck_75 hS.2.1 (vp_in_nI (by unfold oR; omega) (by decide)) (hS.rd (k := oR (a * 5 + i)) (by unfold oR; omega)) ?_
    refine g_if_le (tgt := 85) dX7_truck_76 (by decide) (fun b2 => ?_) (fun b2 => ?_)
    · exact found i (by omega) hno (fun _ => Classical.byContradiction fun q => absurd (hp.mpr q) (Int32.not_lt.mpr b2))
    · have ih := ih (i + 1) (by omega) (fun j hj => by
        rcases Nat.lt_or_ge j i with z | z
        · exact hno j z
        · rw [show j = i by omega]
          exact hp.mp (Int32.not_le.mp b2))
      refine g_iinc dX7_truck_79 rfl (by first | exact nI_inc _ | rfl) (by decide) rfl ?_
      show G _ _ _ _ _ _ _ _ _ [_, _, _, _, _, _] _
      refine g_jump (tgt := 58) dX7_truck_82 (by decide) ?_
      exact ih
/-- some cells of a new convoy are laid -/
def cvK (f : Fl) (g : Int32) (n : Nat) : Fl := fun k => if 100 + 16 * cnt f ≤ k ∧ k < 100 + 16 * cnt f + n then (if k = oC (cnt f) 0 then g else if k = oC (cnt f) 2 then -1 else nI 0) else f k
theorem cvK_succ {g : Int32} {n : Nat} : upd (cvK f g n) (oC (cnt f) n) (if n = 0 then g else if n = 2 then -1 else nI 0) = cvK f g (n + 1) := by
  funext k
  unfold upd cvK
  by_cases e : k = oC (cnt f) n
  · have e2 : 100 + 16 * cnt f ≤ k ∧ k < 100 + 16 * cnt f + (n + 1) := by rw [e]; unfold oC; omega
    rw [if_pos e, if_pos e2]
    by_cases a : n = 0
    · have e3 : k = oC (cnt f) 0 := by rw [e, a]
      rw [if_pos a, if_pos e3]
    · have e3 : ¬ k = oC (cnt f) 0 := by rw [e]; unfold oC; omega
      rw [if_neg a, if_neg e3]
      by_cases b : n = 2
      · have e4 : k = oC (cnt f) 2 := by rw [e, b]
        rw [if_pos b, if_pos e4]
      · have e4 : ¬ k = oC (cnt f) 2 := by rw [e]; unfold oC; omega
        rw [if_neg b, if_neg e4]
  · rw [if_neg e]
    by_cases a : 100 + 16 * cnt f ≤ k ∧ k < 100 + 16 * cnt f + n
    · rw [if_pos a, if_pos (show 100 + 16 * cnt f ≤ k ∧ k < 100 + 16 * cnt f + (n + 1) from ⟨a.1, by omega⟩)]
    · rw [if_neg a, if_neg (show ¬ (100 + 16 * cnt f ≤ k ∧ k < 100 + 16 * cnt f + (n + 1)) from fun q => by unfold oC at e; omega)]
theorem cvK_16 {g : Int32} (h1 : f 1 = nI (cnt f)) : upd (cvK f g 16) 1 (cvK f g 16 1 + nI 1) = cvF f g := by
  funext k
  have e1 : cvK f g 16 1 = nI (cnt f) := by
    unfold cvK
    rw [if_neg (by omega), h1]
  rw [e1, nI_add]
  unfold upd cvK cvF
  by_cases e : k = 1
  · have e2 : ¬ (100 + 16 * cnt f ≤ k ∧ k < 116 + 16 * cnt f) := by omega
    rw [if_pos e, if_neg e2, if_pos e]
  · rw [if_neg e, if_neg e, show 100 + 16 * cnt f + 16 = 116 + 16 * cnt f by omega]
theorem cvK_0 {g : Int32} : cvK f g 0 = f := by
  funext k
  unfold cvK
  rw [if_neg (by omega)]
set_option maxRecDepth 100000 in
theorem r_convoy {x : Int32} (h : MS sh V m S th) (hI : InvB S.1) (hP : RI sh m sz V (sp_convoy S x) P) : MC E YX7_convoy [.ref m, .int x] sh sz V P := by
  obtain ⟨r, hB⟩ := h
  have h0 := hB.1.1
  have h44 := hI.1.2
  unfold sp_convoy at hP
  refine MC.of RX7 "convoy" rfl (by decide +kernel) rfl 2 [_, _, none, none] rfl (Nat.le_of_ble_eq_true rfl) ?_
  show G E MX7_convoy _ _ _ _ _ _ _ _ _
  refine g_aload_n dX7_convoy_0 rfl ?_
  refine g_get 9 rfl (by decide) inX7 0 (by decide) fl_X7_9 dX7_convoy_1 h0 hB.1.2.2.1 ?_
  refine g_iconst (v := nI 1) dX7_convoy_4 (by decide) ?_
  refine g_iaload dX7_convoy_5 hB.1.2.1 (vp_in_nI (by decide) (by decide)) (hB.1.many hI) ?_
  refine g_istore_n dX7_convoy_6 (by decide) rfl ?_
  show G _ _ _ _ _ _ _ _ _ [_, _, _, _] _
  refine g_aload_n dX7_convoy_7 rfl ?_
  refine g_callVv (Y := YX7_keep) (Q := (fun V1 => (∀ a, a ≠ m → a ≠ m + 2 → V1 a = V a) ∧ (∀ j, j ≠ 7 → V1 m j = V m j) ∧ MB sh V1 m S.1 0 r S ∧ Bk V1 m S.1)) sv_X7_92 rfl yn_X7_keep 9 (by decide) rfl rfl dX7_convoy_8 (k_keep hB (fun V' a b c d => ⟨rfl, rfl, rfl, a, b, c, d⟩)) h0 rfl rfl rfl (Nat.le_of_ble_eq_true rfl) ⟨rfl, rfl⟩ (fun V1 q => ?_)
  obtain ⟨w1, w2, w3, w4⟩ := q
  have hw := Mf.o1 w1
  have hS := w3.1
  refine g_iload_n dX7_convoy_11 rfl ?_
  refine g_iconst (v := nI 1) dX7_convoy_12 (by decide) ?_
  refine g_iconst (v := nI 3) dX7_convoy_13 (by decide) ?_
  refine g_callSp (Y := YX7_in) ss_X7_84 yn_X7_in dX7_convoy_14 (k_in pR_ok) rfl rfl rfl (Nat.le_of_ble_eq_true rfl) ⟨rfl, rfl⟩ ?_
  refine g_if_ne (tgt := 26) dX7_convoy_17 (by decide) (fun b1 => ?_) (fun b1 => ?_)
  rotate_left
  · rw [if_neg (bi_eq b1)] at hP
    refine g_aload_n dX7_convoy_20 rfl ?_
    refine g_iconst (v := nI 1) dX7_convoy_21 (by decide) ?_
    refine g_callVw (Y := YX7_fails) sv_X7_88 rfl yn_X7_fails 9 (by decide) rfl rfl dX7_convoy_22 (k_fails (P := pW (fun v V' => v = .int (nI 0) ∧ V' = hu V1 m 7 (.int (nI 1))) sh sz) h0 ⟨_, rfl, rfl, rfl, rfl, rfl⟩) h0 rfl rfl rfl (Nat.le_of_ble_eq_true rfl) ⟨rfl, rfl⟩ (fun v V' q => ?_)
    obtain ⟨rfl, rfl⟩ := q
    exact g_iret rfl (nr_int _) dX7_convoy_25 (by decide) (hP.no2 hw w3)
  rw [if_pos (bi_ne b1)] at hP
  refine g_iload_n dX7_convoy_26 rfl ?_
  refine g_iconst (v := nI 4) dX7_convoy_27 (by decide) ?_
  refine g_icmp_ne (tgt := 39) dX7_convoy_28 (by decide) (fun b2 => ?_) (fun b2 => ?_)
  rotate_left
  · have h4 : cnt S.1 = 4 := (nI_eq (by omega) (by decide)).mp b2
    rw [if_neg (by omega)] at hP
    refine g_aload_n dX7_convoy_31 rfl ?_
    refine g_iconst (v := nI 2) dX7_convoy_32 (by decide) ?_
    refine g_iconst (v := nI 1) dX7_convoy_33 (by decide) ?_
    refine g_iconst (v := nI 4) dX7_convoy_34 (by decide) ?_
    refine g_callVw (Y := YX7_refuse) sv_X7_126 rfl yn_X7_refuse 9 (by decide) rfl rfl dX7_convoy_35 (k_refuse (P := pW (fun v V' => v = .int (nI 0) ∧ P (.inl (some (.int (nI 0)))) sh sz V') sh sz) w3 (fun V' q1 q2 q3 => ⟨_, rfl, rfl, rfl, rfl, hP.ref2 hw V' q1 q3⟩)) h0 rfl rfl rfl (Nat.le_of_ble_eq_true rfl) ⟨rfl, rfl⟩ (fun v V' q => ?_)
    obtain ⟨rfl, q⟩ := q
    exact g_iret rfl (nr_int _) dX7_convoy_38 (by decide) q
  have h4 : cnt S.1 < 4 := by
    rcases Nat.lt_or_ge (cnt S.1) 4 with q | q
    · exact q
    · exact absurd (by rw [show cnt S.1 = 4 by omega]) b2
  rw [if_pos h4] at hP
  refine g_iconst (v := nI 0) dX7_convoy_39 (by decide) ?_
  refine g_istore_n dX7_convoy_40 (by decide) rfl ?_
  show G _ _ _ _ _ _ _ _ _ [_, _, _, _] _
  suffices K : ∀ (d i : Nat), i + d = 16 → ∀ V2, Mw V1 V2 m → SA sh V2 m (cvK S.1 x i) → G E MX7_convoy P sh sz V2 0 0 41 [some (.ref m), some (.int x), some (.int (nI (cnt S.1))), some (.int (nI i))] [] from K 16 0 rfl V1 Mw.rf (by rw [cvK_0]; exact hS)
  intro d
  induction d with
  | zero =>
    intro i hi V2 hw2 hS2
    have hi : i = 16 := by omega
    subst hi
    refine g_iload_n dX7_convoy_41 rfl ?_
    refine g_bipush (v := nI 16) dX7_convoy_42 (by decide) ?_
    refine g_icmp_ge (tgt := 85) dX7_convoy_44 (by decide) (fun _ => ?_) (fun hq => absurd (Int32.le_refl _) hq)
    refine g_aload_n dX7_convoy_85 rfl ?_
    refine g_get 9 rfl (by decide) inX7 0 (by decide) fl_X7_9 dX7_convoy_86 h0 hS2.2.2.1 ?_
    refine g_iconst (v := nI 1) dX7_convoy_89 (by decide) ?_
    refine g_dup2 dX7_convoy_90 rfl rfl ?_
    refine g_iaload dX7_convoy_91 hS2.2.1 (vp_in_nI (by decide) (by decide)) (hS2.rd (k := 1) (by decide)) ?_
    refine g_iconst (v := nI 1) dX7_convoy_92 (by decide) ?_
    refine g_iadd dX7_convoy_93 ?_
    refine g_iastore dX7_convoy_94 hS2.2.1 (vp_in_nI (by decide) (by decide)) ?_
    rw [show (nI 1).toNatClampNeg = 1 from rfl]
    have hS4 := SA.wr (k := 1) (x := cvK S.1 x 16 1 + nI 1) hS2
    have hw4 := hw2.put (k := 1) (v := .int (cvK S.1 x 16 1 + nI 1))
    rw [cvK_16 hI.1.1] at hS4
    generalize hu V2 (m + 1) 1 (.int (cvK S.1 x 16 1 + nI 1)) = V4 at hS4 hw4 ⊢
    have hM := w3.row hw4 hS4
    have hb : Bk V4 m S.1 := fun k hk => by rw [hw4 _ (by omega)]; exact w4 k hk
    refine g_aload_n dX7_convoy_95 rfl ?_
    refine g_iload_n dX7_convoy_96 rfl ?_
    refine g_callVw (Y := YX7_ends) sv_X7_98 rfl yn_X7_ends 9 (by decide) rfl rfl dX7_convoy_97 (k_ends (P := pW (fun v V5 => P (.inl (some v)) sh sz V5 ∧ ∃ x, v = .int x) sh sz) hM hb (fun hq0 V3 a b => absurd hq0 (by decide)) (fun hq0 V5 a b => ⟨_, rfl, rfl, rfl, hP.yes2 V5 ((hw.trans (fun x hx => hw4 x (by omega))).trans a) b, _, rfl⟩)) h0 rfl rfl rfl (Nat.le_of_ble_eq_true rfl) ⟨rfl, rfl⟩ (fun v V5 q => ?_)
    obtain ⟨q, x, rfl⟩ := q
    exact g_iret rfl (nr_int _) dX7_convoy_100 (by decide) q
  | succ d ih =>
    intro i hi V2 hw2 hS2
    have tail : ∀ y, y = (if i = 0 then x else if i = 2 then -1 else nI 0) → G E MX7_convoy P sh sz V2 0 0 78 [some (.ref m), some (.int x), some (.int (nI (cnt S.1))), some (.int (nI i))] [.int y, .int (nI (oC (cnt S.1) i)), .ref (m + 1)] := by
      intro y hy
      have hS3 := SA.wr (k := oC (cnt S.1) i) (x := y) hS2
      rw [hy, cvK_succ] at hS3
      have ih := ih (i + 1) (by omega) (hu V2 (m + 1) (oC (cnt S.1) i) (.int y)) hw2.put (by rw [hy]; exact hS3)
      refine g_iastore dX7_convoy_78 hS2.2.1 (vp_in_nI (by unfold oC; omega) (by decide)) ?_
      rw [nI_clamp (by unfold oC; omega)]
      refine g_iinc dX7_convoy_79 rfl (by first | exact nI_inc _ | rfl) (by decide) rfl ?_
      show G _ _ _ _ _ _ _ _ _ [_, _, _, _] _
      refine g_jump (tgt := 41) dX7_convoy_82 (by decide) ?_
      exact ih
    refine g_iload_n dX7_convoy_41 rfl ?_
    refine g_bipush (v := nI 16) dX7_convoy_42 (by decide) ?_
    refine g_icmp_ge (tgt := 85) dX7_convoy_44 (by decide) (fun hq => absurd hq (nI_ge (by omega) (by omega))) (fun _ => ?_)
    refine g_aload_n dX7_convoy_47 rfl ?_
    refine g_get 9 rfl (by decide) inX7 0 (by decide) fl_X7_9 dX7_convoy_48 h0 hS2.2.2.1 ?_
    refine g_bipush (v := nI 100) dX7_convoy_51 (by decide) ?_
    refine g_bipush (v := nI 16) dX7_convoy_53 (by decide) ?_
    refine g_iload_n dX7_convoy_55 rfl ?_
    refine g_imul dX7_convoy_56 ?_
    refine g_iadd dX7_convoy_57 ?_
    refine g_iload_n dX7_convoy_58 rfl ?_
    refine g_iadd dX7_convoy_59 ?_
    refine g_iload_n dX7_convoy_60 rfl ?_
    rw [ix_C]
    refine g_if_ne (tgt := 68) dX7_convoy_61 (by decide) (fun b3 => ?_) (fun b3 => ?_)
    rotate_left
    · have hi0 : i = 0 := (nI_eq (b := 0) (by omega) (by decide)).mp b3
      have t := tail x (by rw [if_pos hi0])
      refine g_iload_n dX7_convoy_64 rfl ?_
      refine g_jump (tgt := 78) dX7_convoy_65 (by decide) ?_
      exact t
    have hi0 : ¬ i = 0 := fun q => b3 (by rw [q]; rfl)
    refine g_iload_n dX7_convoy_68 rfl ?_
    refine g_iconst (v := nI 2) dX7_convoy_69 (by decide) ?_
    refine g_icmp_ne (tgt := 77) dX7_convoy_70 (by decide) (fun b4 => ?_) (fun b4 => ?_)
    rotate_left
    · have hi2 : i = 2 := (nI_eq (by omega) (by decide)).mp b4
      have t := tail (-1) (by rw [if_neg hi0, if_pos hi2])
      refine g_iconst (v := (-1)) dX7_convoy_73 (by decide) ?_
      refine g_jump (tgt := 78) dX7_convoy_74 (by decide) ?_
      exact t
    · have t := tail (nI 0) (by rw [if_neg hi0, if_neg (fun q => b4 (by rw [q]))])
      refine g_iconst (v := nI 0) dX7_convoy_77 (by decide) ?_
      exact t
end REF12

