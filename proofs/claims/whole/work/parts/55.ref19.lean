/-! the reference reads one order -/
section REF19
variable {E : gE} {M : gM} {P : gP} {sh : Sh} {sz : Nat} {V V' V1 V2 : Vl} {cu su pc : Nat} {L : List (Option Value)} {rest : List Value} {m p n i om : Nat} {w : Bool} {lo hi : Int32} {tx : Nat → Int32}
theorem ixF_L {c : Int32} : 0 ≤ ixF c ↔ isL c := by
  unfold ixF isL
  by_cases h1 : c = nI 100
  · rw [if_pos h1]; exact ⟨fun _ => Or.inl h1, fun _ => by decide⟩
  rw [if_neg h1]
  by_cases h2 : c = nI 115
  · rw [if_pos h2]; exact ⟨fun _ => Or.inr (Or.inl h2), fun _ => by decide⟩
  rw [if_neg h2]
  by_cases h3 : c = nI 114
  · rw [if_pos h3]; exact ⟨fun _ => Or.inr (Or.inr (Or.inl h3)), fun _ => by decide⟩
  rw [if_neg h3]
  by_cases h4 : c = nI 116
  · rw [if_pos h4]; exact ⟨fun _ => Or.inr (Or.inr (Or.inr (Or.inl h4))), fun _ => by decide⟩
  rw [if_neg h4]
  by_cases h5 : c = nI 106
  · rw [if_pos h5]; exact ⟨fun _ => Or.inr (Or.inr (Or.inr (Or.inr (Or.inl h5)))), fun _ => by decide⟩
  rw [if_neg h5]
  by_cases h6 : c = nI 112
  · rw [if_pos h6]; exact ⟨fun _ => Or.inr (Or.inr (Or.inr (Or.inr (Or.inr h6)))), fun _ => by decide⟩
  rw [if_neg h6]
  exact ⟨fun q => absurd q (by decide), fun q => by rcases q with q | q | q | q | q | q <;> contradiction⟩
/-- order k of the reference's list -/
def Oq (V : Vl) (m k : Nat) (q : Int32 × Int32 × Int32 × Int32) : Prop := V (m + 7) (4 * k) = .int q.1 ∧ V (m + 7) (4 * k + 1) = .int q.2.1 ∧ V (m + 7) (4 * k + 2) = .int q.2.2.1 ∧ V (m + 7) (4 * k + 3) = .int q.2.2.2
/-- the reading may change: place, whether wrong, how many, and the list -/
def Ro (V V' : Vl) (m : Nat) : Prop := (∀ a, a ≠ m → a ≠ m + 7 → V' a = V a) ∧ ∀ j, j ≠ 13 → j ≠ 14 → j ≠ 17 → V' m j = V m j
theorem Ro.rf : Ro V V m := ⟨fun _ _ _ => rfl, fun _ _ _ _ => rfl⟩
theorem Ro.pf (h : Ro V V1 m) (h2 : Pf V1 V2 m) : Ro V V2 m := ⟨fun a q1 q2 => (h2.1 a q1).trans (h.1 a q1 q2), fun j a b c => (h2.2 j a b).trans (h.2 j a b c)⟩
theorem Ro.st {k : Nat} {v : Value} (h : Ro V V1 m) : Ro V (hu V1 (m + 7) k v) m := ⟨fun a q1 q2 => (hu_ne _ _ _ q2).trans (h.1 a q1 q2), fun j a b c => (congrFun (hu_ne _ _ _ (by omega)) j).trans (h.2 j a b c)⟩
theorem Ro.fd {j : Nat} {v : Value} (h : Ro V V1 m) (hj : j = 13 ∨ j = 14 ∨ j = 17) : Ro V (hu V1 m j v) m := ⟨fun a q1 q2 => (hu_ne _ _ _ q1).trans (h.1 a q1 q2), fun k a b c => (hu_at_ne _ _ _ (by omega)).trans (h.2 k a b c)⟩
theorem Ro.trans (h : Ro V V1 m) (h2 : Ro V1 V2 m) : Ro V V2 m := ⟨fun a q1 q2 => (h2.1 a q1 q2).trans (h.1 a q1 q2), fun k a b c => (h2.2 k a b c).trans (h.2 k a b c)⟩
theorem Tx.ro {p' : Nat} {w' : Bool} (h : Tx sh V m n tx p w) (hF : Ro V V' m) (hp : p' ≤ n) (h1 : V' m 13 = .int (nI p')) (h2 : V' m 14 = .int (bi (w' = true))) : Tx sh V' m n tx p' w' := by
  obtain ⟨a, b, c, d, e, f, -, -, -⟩ := h
  exact ⟨a, b, (hF.2 _ (by decide) (by decide) (by decide)).trans c, (hF.2 _ (by decide) (by decide) (by decide)).trans d, fun k hk => by rw [hF.1 _ (by omega) (by omega)]; exact e k hk, f, hp, h1, h2⟩
set_option maxRecDepth 100000 in
theorem k_readOrder (h : Tx sh V m n tx i false) (h7 : sh (m + 7) = (20, 240)) (v16 : V m 16 = .ref (m + 7)) (v17 : V m 17 = .int (nI om)) (hom : om ≤ 20)
    (hP : ∀ V', Ro V V' m → V' m 13 = .int (nI (oK tx n i).2.1) → V' m 14 = .int (bi ((!(oK tx n i).1) = true)) → ((oK tx n i).1 = true → V' m 17 = .int (nI (om + 1)) ∧ Oq V' m om (oK tx n i).2.2 ∧ ∀ k, k < 4 * om → V' (m + 7) k = V (m + 7) k) → P (.inl none) sh sz V') : MC E YX7_readOrder [.ref m] sh sz V P := by
  obtain ⟨h0, h6, v11, v12, ht, hn, hi, v13, v14⟩ := id h
  refine MC.of RX7 "readOrder" rfl (by decide +kernel) rfl 2 [_, none, none] rfl (Nat.le_of_ble_eq_true rfl) ?_
  show G E MX7_readOrder _ _ _ _ _ _ _ _ _
  refine g_iconst (v := nI 4) dX7_readOrder_0 (by decide) ?_
  refine g_aload_n dX7_readOrder_1 rfl ?_
  refine g_get 9 rfl (by decide) inX7 17 (by decide) fl_X7_234 dX7_readOrder_2 h0 v17 ?_
  refine g_imul dX7_readOrder_5 ?_
  refine g_istore_n dX7_readOrder_6 (by decide) rfl ?_
  show G _ _ _ _ _ _ _ _ _ [_, _, _] _
  refine g_aload_n dX7_readOrder_7 rfl ?_
  rw [pk_mul]
  refine g_get 9 rfl (by decide) inX7 14 (by decide) fl_X7_214 dX7_readOrder_8 h0 v14 ?_
  refine g_if_ne (tgt := 25) dX7_readOrder_11 (by decide) (fun hq => absurd hq ((fun q => q rfl))) (fun _ => ?_)
  refine g_aload_n dX7_readOrder_14 rfl ?_
  refine g_get 9 rfl (by decide) inX7 13 (by decide) fl_X7_217 dX7_readOrder_15 h0 v13 ?_
  refine g_aload_n dX7_readOrder_18 rfl ?_
  refine g_get 9 rfl (by decide) inX7 12 (by decide) fl_X7_211 dX7_readOrder_19 h0 v12 ?_
  -- the letter's place known
  have wrong : (oK tx n i) = (false, i, (0, 0, 0, 0)) → ∀ c, ¬ isL c → G E MX7_readOrder P sh sz V 0 0 39 [some (.ref m), some (.int (nI (4 * om))), none] [.int c] := by
    intro e c hc
    rw [e] at hP
    have go : G E MX7_readOrder P sh sz V 0 0 47 [some (.ref m), some (.int (nI (4 * om))), some (.int c)] (.int (ixF c) :: [.ref m]) := by
      refine g_if_ge (tgt := 54) dX7_readOrder_47 (by decide) (fun hq => absurd hq ((fun q => hc (ixF_L.mp q)))) (fun _ => ?_)
      refine g_iconst (v := nI 1) dX7_readOrder_50 (by decide) ?_
      refine g_jump (tgt := 55) dX7_readOrder_51 (by decide) ?_
      refine g_put 9 rfl (by decide) inX7 tyX7 tyX7_ok nmX7 14 (by decide) fl_X7_214 rfl dX7_readOrder_55 h0 rfl rfl ?_
      have x14 : hu V m 14 (.int (nI 1)) m 14 = .int (nI 1) := hu_at _ _ _ _
      refine g_aload_n dX7_readOrder_58 rfl ?_
      refine g_get 9 rfl (by decide) inX7 14 (by decide) fl_X7_214 dX7_readOrder_59 h0 x14 ?_
      refine g_if_eq (tgt := 66) dX7_readOrder_62 (by decide) (fun hq => absurd hq ((by decide))) (fun _ => ?_)
      exact g_vret rfl dX7_readOrder_65 (by decide) (hP _ (Ro.rf.fd (by omega)) ((hu_at_ne _ _ _ (by decide)).trans v13) x14 (fun q => nomatch q))
    refine g_istore_n dX7_readOrder_39 (by decide) rfl ?_
    show G _ _ _ _ _ _ _ _ _ [_, _, _] _
    refine g_aload_n dX7_readOrder_40 rfl ?_
    exact g_ix go (Nat.le_of_ble_eq_true rfl)
  by_cases hin : i = n
  · have e := oK_0 (tx := tx) (n := n) (i := i) (fun q => absurd q (by omega))
    have wr := wrong e (nI 32) (by unfold isL; decide)
    refine g_icmp_ne (tgt := 30) dX7_readOrder_22 (by decide) (fun hq => absurd hq ((fun q => q (by rw [hin])))) (fun _ => ?_)
    refine g_bipush (v := nI 32) dX7_readOrder_25 (by decide) ?_
    refine g_jump (tgt := 39) dX7_readOrder_27 (by decide) ?_
    exact wr
  have hlt : i < n := by omega
  refine g_icmp_ne (tgt := 30) dX7_readOrder_22 (by decide) (fun _ => ?_) (fun hq => absurd hq ((fun q => hin ((nI_eq (by omega) (by omega)).mp q))))
  refine g_aload_n dX7_readOrder_30 rfl ?_
  refine g_get 9 rfl (by decide) inX7 11 (by decide) fl_X7_25 dX7_readOrder_31 h0 v11 ?_
  refine g_aload_n dX7_readOrder_34 rfl ?_
  refine g_get 9 rfl (by decide) inX7 13 (by decide) fl_X7_217 dX7_readOrder_35 h0 v13 ?_
  refine g_caload dX7_readOrder_38 h6 (vp_in_nI (by omega) (by decide)) (at_nI (by omega) (ht i hlt)) ?_
  by_cases hL : isL (tx i)
  rotate_left
  · exact wrong (oK_0 (fun _ => by unfold noL; unfold isL at hL; exact ⟨fun q => hL (Or.inl q), fun q => hL (Or.inr (Or.inr (Or.inr (Or.inr (Or.inr q))))), fun q => hL (Or.inr (Or.inl q)), fun q => hL (Or.inr (Or.inr (Or.inl q))), fun q => hL (Or.inr (Or.inr (Or.inr (Or.inl q)))), fun q => hL (Or.inr (Or.inr (Or.inr (Or.inr (Or.inl q)))))⟩)) _ hL
  refine g_istore_n dX7_readOrder_39 (by decide) rfl ?_
  show G _ _ _ _ _ _ _ _ _ [_, _, _] _
  refine g_aload_n dX7_readOrder_40 rfl ?_
  refine g_ix ?_ (Nat.le_of_ble_eq_true rfl)
  refine g_if_ge (tgt := 54) dX7_readOrder_47 (by decide) (fun _ => ?_) (fun hq => absurd ((ixF_L.mpr hL)) hq)
  refine g_iconst (v := nI 0) dX7_readOrder_54 (by decide) ?_
  refine g_put 9 rfl (by decide) inX7 tyX7 tyX7_ok nmX7 14 (by decide) fl_X7_214 rfl dX7_readOrder_55 h0 rfl rfl ?_
  have x14 : hu V m 14 (.int (nI 0)) m 14 = .int (nI 0) := hu_at _ _ _ _
  have x13 : hu V m 14 (.int (nI 0)) m 13 = .int (nI i) := (hu_at_ne _ _ _ (by decide)).trans v13
  have hr1 : Ro V (hu V m 14 (.int (nI 0))) m := Ro.rf.fd (by omega)
  have x17 : hu V m 14 (.int (nI 0)) m 17 = .int (nI om) := (hu_at_ne _ _ _ (by decide)).trans v17
  have y7 : hu V m 14 (.int (nI 0)) (m + 7) = V (m + 7) := hu_ne _ _ _ (by omega)
  generalize hu V m 14 (.int (nI 0)) = V1 at x14 x13 hr1 x17 y7 ⊢
  refine g_aload_n dX7_readOrder_58 rfl ?_
  refine g_get 9 rfl (by decide) inX7 14 (by decide) fl_X7_214 dX7_readOrder_59 h0 x14 ?_
  refine g_if_eq (tgt := 66) dX7_readOrder_62 (by decide) (fun _ => ?_) (fun hq => absurd (rfl) hq)
  refine g_aload_n dX7_readOrder_66 rfl ?_
  refine g_dup dX7_readOrder_67 rfl ?_
  refine g_get 9 rfl (by decide) inX7 13 (by decide) fl_X7_217 dX7_readOrder_68 h0 x13 ?_
  refine g_iconst (v := nI 1) dX7_readOrder_71 (by decide) ?_
  refine g_iadd dX7_readOrder_72 ?_
  rw [nI_add]
  refine g_put 9 rfl (by decide) inX7 tyX7 tyX7_ok nmX7 13 (by decide) fl_X7_217 rfl dX7_readOrder_73 h0 rfl rfl ?_
  have z14 : hu V1 m 13 (.int (nI (i + 1))) m 14 = .int (nI 0) := (hu_at_ne _ _ _ (by decide)).trans x14
  have z13 : hu V1 m 13 (.int (nI (i + 1))) m 13 = .int (nI (i + 1)) := hu_at _ _ _ _
  have z17 : hu V1 m 13 (.int (nI (i + 1))) m 17 = .int (nI om) := (hu_at_ne _ _ _ (by decide)).trans x17
  have hr2 : Ro V (hu V1 m 13 (.int (nI (i + 1)))) m := hr1.fd (by omega)
  have y7 : hu V1 m 13 (.int (nI (i + 1))) (m + 7) = V (m + 7) := (hu_ne _ _ _ (by omega)).trans y7
  clear x14 x13 x17 hr1
  generalize hu V1 m 13 (.int (nI (i + 1))) = V2 at z14 z13 z17 hr2 y7 ⊢
  refine g_aload_n dX7_readOrder_76 rfl ?_
  refine g_get 9 rfl (by decide) inX7 16 (by decide) fl_X7_33 dX7_readOrder_77 h0 ((hr2.2 16 (by decide) (by decide) (by decide)).trans v16) ?_
  refine g_iload_n dX7_readOrder_80 rfl ?_
  refine g_iload_n dX7_readOrder_81 rfl ?_
  refine g_iastore dX7_readOrder_82 h7 (vp_in_nI (by omega) (by decide)) ?_
  rw [nI_clamp (by omega)]
  have q0 : hu V2 (m + 7) (4 * om) (.int (tx i)) (m + 7) (4 * om) = .int (tx i) := hu_at _ _ _ _
  have qk : ∀ k, k < 4 * om → hu V2 (m + 7) (4 * om) (.int (tx i)) (m + 7) k = V (m + 7) k := fun k hk => (hu_at_ne _ _ _ (by omega)).trans (congrFun y7 k)
  have hr3 : Ro V (hu V2 (m + 7) (4 * om) (.int (tx i))) m := hr2.st
  have em : hu V2 (m + 7) (4 * om) (.int (tx i)) m = V2 m := hu_ne _ _ _ (by omega)
  have hT : Tx sh (hu V2 (m + 7) (4 * om) (.int (tx i))) m n tx (i + 1) false := h.ro hr3 (by omega) ((congrFun em 13).trans z13) ((congrFun em 14).trans z14)
  have z17 : hu V2 (m + 7) (4 * om) (.int (tx i)) m 17 = .int (nI om) := (congrFun em 17).trans z17
  clear z14 z13 hr2 y7 em
  generalize hu V2 (m + 7) (4 * om) (.int (tx i)) = V3 at q0 qk hr3 hT z17 ⊢
  have o16 : V3 m 16 = .ref (m + 7) := (hr3.2 16 (by decide) (by decide) (by decide)).trans v16
  -- the end
  have fin : ∀ V6 x3 p1 w1, Ro V V6 m → V6 m 17 = .int (nI om) → V6 m 13 = .int (nI p1) → V6 m 14 = .int (bi (w1 = true)) → p1 = (oK tx n i).2.1 → w1 = !(oK tx n i).1 → ((oK tx n i).1 = true → V6 (m + 7) (4 * om) = .int (oK tx n i).2.2.1 ∧ V6 (m + 7) (4 * om + 1) = .int (oK tx n i).2.2.2.1 ∧ V6 (m + 7) (4 * om + 2) = .int (oK tx n i).2.2.2.2.1 ∧ x3 = (oK tx n i).2.2.2.2.2) → (∀ k, k < 4 * om → V6 (m + 7) k = V (m + 7) k) → G E MX7_readOrder P sh sz V6 0 0 174 [some (.ref m), some (.int (nI (4 * om))), some (.int (tx i))] [.int x3, .int (nI (4 * om + 3)), .ref (m + 7)] := by
    intro V6 x3 p1 w1 hr6 u17 u13 u14 e1 e2 hq hk
    subst e1
    subst e2
    refine g_iastore dX7_readOrder_174 h7 (vp_in_nI (by omega) (by decide)) ?_
    rw [nI_clamp (by omega)]
    have em : hu V6 (m + 7) (4 * om + 3) (.int x3) m = V6 m := hu_ne _ _ _ (by omega)
    refine g_aload_n dX7_readOrder_175 rfl ?_
    refine g_dup dX7_readOrder_176 rfl ?_
    refine g_get 9 rfl (by decide) inX7 17 (by decide) fl_X7_234 dX7_readOrder_177 h0 ((congrFun em 17).trans u17) ?_
    refine g_iconst (v := nI 1) dX7_readOrder_180 (by decide) ?_
    refine g_iadd dX7_readOrder_181 ?_
    rw [nI_add]
    refine g_put 9 rfl (by decide) inX7 tyX7 tyX7_ok nmX7 17 (by decide) fl_X7_234 rfl dX7_readOrder_182 h0 rfl rfl ?_
    have ex : ∀ k, hu (hu V6 (m + 7) (4 * om + 3) (.int x3)) m 17 (.int (nI (om + 1))) (m + 7) k = hu V6 (m + 7) (4 * om + 3) (.int x3) (m + 7) k := fun k => congrFun (hu_ne _ _ _ (by omega)) k
    exact g_vret rfl dX7_readOrder_185 (by decide) (hP _ (hr6.st.fd (by omega)) ((hu_at_ne _ _ _ (by decide)).trans ((congrFun em 13).trans u13)) ((hu_at_ne _ _ _ (by decide)).trans ((congrFun em 14).trans u14)) (fun q => ⟨hu_at _ _ _ _, ⟨(ex _).trans ((hu_at_ne _ _ _ (by omega)).trans (hq q).1), (ex _).trans ((hu_at_ne _ _ _ (by omega)).trans (hq q).2.1), (ex _).trans ((hu_at_ne _ _ _ (by omega)).trans (hq q).2.2.1), (ex _).trans ((hu_at _ _ _ _).trans (by rw [(hq q).2.2.2]))⟩, fun k hk2 => (ex k).trans ((hu_at_ne _ _ _ (by omega)).trans (hk k hk2))⟩))
  -- behind the first number, for letters without places
  have mid : tx i ≠ nI 106 → ∀ V5 x1 p1 w1, Pf V3 V5 m → V5 m 13 = .int (nI p1) → V5 m 14 = .int (bi (w1 = true)) → p1 = (oK tx n i).2.1 → w1 = !(oK tx n i).1 → ((oK tx n i).1 = true → (oK tx n i).2.2 = (tx i, x1, 0, 0)) → G E MX7_readOrder P sh sz V5 0 0 126 [some (.ref m), some (.int (nI (4 * om))), some (.int (tx i))] [.int x1, .int (nI (4 * om + 1)), .ref (m + 7)] := by
    intro hj V5 x1 p1 w1 hF u13 u14 e1 e2 hq
    have h57 : V5 (m + 7) = V3 (m + 7) := hF.1 _ (by omega)
    have o5 : V5 m 16 = .ref (m + 7) := (hF.2 _ (by decide) (by decide)).trans o16
    refine g_iastore dX7_readOrder_126 h7 (vp_in_nI (by omega) (by decide)) ?_
    rw [nI_clamp (by omega)]
    have em : hu V5 (m + 7) (4 * om + 1) (.int x1) m = V5 m := hu_ne _ _ _ (by omega)
    refine g_aload_n dX7_readOrder_127 rfl ?_
    refine g_get 9 rfl (by decide) inX7 16 (by decide) fl_X7_33 dX7_readOrder_128 h0 ((congrFun em 16).trans o5) ?_
    refine g_iload_n dX7_readOrder_131 rfl ?_
    refine g_iconst (v := nI 2) dX7_readOrder_132 (by decide) ?_
    refine g_iadd dX7_readOrder_133 ?_
    refine g_iload_n dX7_readOrder_134 rfl ?_
    refine g_bipush (v := nI 106) dX7_readOrder_135 (by decide) ?_
    rw [nI_add]
    refine g_icmp_ne (tgt := 149) dX7_readOrder_137 (by decide) (fun _ => ?_) (fun hq => absurd hq (hj))
    refine g_iconst (v := nI 0) dX7_readOrder_149 (by decide) ?_
    refine g_iastore dX7_readOrder_150 h7 (vp_in_nI (by omega) (by decide)) ?_
    rw [nI_clamp (by omega)]
    have em2 : hu (hu V5 (m + 7) (4 * om + 1) (.int x1)) (m + 7) (4 * om + 2) (.int (nI 0)) m = V5 m := (hu_ne _ _ _ (by omega)).trans em
    refine g_aload_n dX7_readOrder_151 rfl ?_
    refine g_get 9 rfl (by decide) inX7 16 (by decide) fl_X7_33 dX7_readOrder_152 h0 ((congrFun em2 16).trans o5) ?_
    refine g_iload_n dX7_readOrder_155 rfl ?_
    refine g_iconst (v := nI 3) dX7_readOrder_156 (by decide) ?_
    refine g_iadd dX7_readOrder_157 ?_
    refine g_iload_n dX7_readOrder_158 rfl ?_
    refine g_bipush (v := nI 106) dX7_readOrder_159 (by decide) ?_
    rw [nI_add]
    refine g_icmp_ne (tgt := 173) dX7_readOrder_161 (by decide) (fun _ => ?_) (fun hq => absurd hq (hj))
    refine g_iconst (v := nI 0) dX7_readOrder_173 (by decide) ?_
    refine fin _ (nI 0) p1 w1 ((hr3.pf hF).st.st) ((congrFun em2 17).trans ((hF.2 _ (by decide) (by decide)).trans z17)) ((congrFun em2 13).trans u13) ((congrFun em2 14).trans u14) e1 e2 (fun q => ?_) (fun k hk => ?_)
    · rw [hq q]
      refine ⟨?_, ?_, ?_, rfl⟩
      · rw [hu_at_ne _ _ _ (by omega), hu_at_ne _ _ _ (by omega), h57]
        exact q0
      · rw [hu_at_ne _ _ _ (by omega), hu_at]
      · rw [hu_at]
        rfl
    · rw [hu_at_ne _ _ _ (by omega), hu_at_ne _ _ _ (by omega), h57]
      exact qk k hk
  refine g_aload_n dX7_readOrder_83 rfl ?_
  refine g_get 9 rfl (by decide) inX7 16 (by decide) fl_X7_33 dX7_readOrder_84 h0 o16 ?_
  refine g_iload_n dX7_readOrder_87 rfl ?_
  refine g_iconst (v := nI 1) dX7_readOrder_88 (by decide) ?_
  refine g_iadd dX7_readOrder_89 ?_
  refine g_iload_n dX7_readOrder_90 rfl ?_
  refine g_bipush (v := nI 116) dX7_readOrder_91 (by decide) ?_
  rw [nI_add]
  -- what the first number leaves
  have one : ∀ {pc : Nat}, (∀ V5 x1, (∃ p1 w1, Pf V3 V5 m ∧ V5 m 13 = .int (nI p1) ∧ V5 m 14 = .int (bi (w1 = true)) ∧ p1 = (oK tx n i).2.1 ∧ w1 = !(oK tx n i).1 ∧ ((oK tx n i).1 = true → (oK tx n i).2.2 = (tx i, x1, 0, 0))) → tx i ≠ nI 106 → G E MX7_readOrder P sh sz V5 0 0 126 [some (.ref m), some (.int (nI (4 * om))), some (.int (tx i))] [.int x1, .int (nI (4 * om + 1)), .ref (m + 7)]) := by
    intro _ V5 x1 q hj
    obtain ⟨p1, w1, a, b, c, d, e, f⟩ := q
    exact mid hj V5 x1 p1 w1 a b c d e f
  have num : (tx i = nI 100 ∨ tx i = nI 112) → G E MX7_readOrder P sh sz V3 0 0 115 [some (.ref m), some (.int (nI (4 * om))), some (.int (tx i))] [.int (nI (4 * om + 1)), .ref (m + 7)] := by
    intro hc
    have e := oK_d (tx := tx) (n := n) (i := i) (by rcases hc with q | q; exact Or.inl ⟨hlt, q⟩; exact Or.inr ⟨hlt, q⟩)
    have hj : tx i ≠ nI 106 := by rcases hc with q | q <;> rw [q] <;> decide
    have one := fun V5 x1 q => one (pc := 0) V5 x1 q hj
    rw [e] at one
    refine g_aload_n dX7_readOrder_115 rfl ?_
    refine g_callVw (Y := YX7_number) sv_X7_231 rfl yn_X7_number 9 (by decide) rfl rfl dX7_readOrder_116 (k_number (P := pW (fun v V5 => ∃ x1, v = .int x1 ∧ ∃ p1 w1, Pf V3 V5 m ∧ V5 m 13 = .int (nI p1) ∧ V5 m 14 = .int (bi (w1 = true)) ∧ p1 = nE tx n (i + 1) ∧ w1 = !decide (dg tx n (i + 1)) ∧ (decide (dg tx n (i + 1)) = true → (tx i, nV tx n (i + 1), (0 : Int32), (0 : Int32)) = (tx i, x1, 0, 0))) sh sz) hT (fun q V' a b c => ⟨_, rfl, rfl, rfl, _, rfl, _, false, a, b, c, rfl, by rw [decide_eq_true q]; rfl, fun _ => rfl⟩) (fun q V' a b c => ⟨_, rfl, rfl, rfl, _, rfl, _, true, a, b, c, by unfold nE; rw [if_neg q], by rw [decide_eq_false q]; rfl, fun z => absurd (of_decide_eq_true z) q⟩)) h0 rfl rfl rfl (Nat.le_of_ble_eq_true rfl) ⟨rfl, rfl⟩ (fun v V5 q => ?_)
    obtain ⟨x1, rfl, q⟩ := q
    have o := one V5 x1 q
    refine g_jump (tgt := 126) dX7_readOrder_119 (by decide) ?_
    exact o
  have dig : (tx i = nI 115 ∨ tx i = nI 114) → G E MX7_readOrder P sh sz V3 0 0 122 [some (.ref m), some (.int (nI (4 * om))), some (.int (tx i))] [.int (nI (4 * om + 1)), .ref (m + 7)] := by
    intro hc
    have e := oK_s (tx := tx) (n := n) (i := i) (by rcases hc with q | q; exact Or.inl ⟨hlt, q⟩; exact Or.inr ⟨hlt, q⟩)
    have hj : tx i ≠ nI 106 := by rcases hc with q | q <;> rw [q] <;> decide
    have one := fun V5 x1 q => one (pc := 0) V5 x1 q hj
    rw [e] at one
    refine g_aload_n dX7_readOrder_122 rfl ?_
    refine g_callVw (Y := YX7_digit) sv_X7_228 rfl yn_X7_digit 9 (by decide) rfl rfl dX7_readOrder_123 (k_digit (P := pW (fun v V5 => ∃ x1, v = .int x1 ∧ ∃ p1 w1, Pf V3 V5 m ∧ V5 m 13 = .int (nI p1) ∧ V5 m 14 = .int (bi (w1 = true)) ∧ p1 = dE tx n (i + 1) ∧ w1 = !decide (dg tx n (i + 1)) ∧ (decide (dg tx n (i + 1)) = true → (tx i, dV tx n (i + 1), (0 : Int32), (0 : Int32)) = (tx i, x1, 0, 0))) sh sz) hT (fun q V' a b c => ⟨_, rfl, rfl, rfl, _, rfl, _, false, a, b, c, by unfold dE; rw [if_pos ((hr_dg _).mp q)], by rw [decide_eq_true ((hr_dg _).mp q)]; rfl, fun _ => by unfold dV; rw [if_pos ((hr_dg _).mp q)]⟩) (fun q V' a b c => ⟨_, rfl, rfl, rfl, _, rfl, _, true, a, b, c, by unfold dE; rw [if_neg (fun z => q ((hr_dg _).mpr z))], by rw [decide_eq_false (fun z => q ((hr_dg _).mpr z))]; rfl, fun z => absurd ((hr_dg _).mpr (of_decide_eq_true z)) q⟩)) h0 rfl rfl rfl (Nat.le_of_ble_eq_true rfl) ⟨rfl, rfl⟩ (fun v V5 q => ?_)
    obtain ⟨x1, rfl, q⟩ := q
    have o := one V5 x1 q
    exact o
  by_cases h116 : tx i = nI 116
  · have e := oK_t (tx := tx) (n := n) (i := i) ⟨hlt, h116⟩
    have hj : tx i ≠ nI 106 := by rw [h116]; decide
    have one := fun V5 x1 q => one (pc := 0) V5 x1 q hj
    have tS1 : ∀ j, j = (if ch tx n (i + 1) (nI 45) then i + 1 + 1 else i + 1) → dg tx n j → nE tx n j = (oK tx n i).2.1 ∧ false = !(oK tx n i).1 ∧ (oK tx n i).2.2 = (tx i, (if ch tx n (i + 1) (nI 45) then -nV tx n j else nV tx n j), 0, 0) := by
      intro j hj q
      rw [e]
      by_cases z : ch tx n (i + 1) (nI 45)
      · rw [if_pos z] at hj ⊢
        rw [if_pos z]
        have hj : j = i + 2 := hj
        subst hj
        exact ⟨rfl, by show false = !decide (dg tx n (i + 2)); rw [decide_eq_true q]; rfl, rfl⟩
      · rw [if_neg z] at hj ⊢
        rw [if_neg z]
        subst hj
        exact ⟨rfl, by show false = !decide (dg tx n (i + 1)); rw [decide_eq_true q]; rfl, rfl⟩
    have tS2 : ∀ j, j = (if ch tx n (i + 1) (nI 45) then i + 1 + 1 else i + 1) → ¬ dg tx n j → j = (oK tx n i).2.1 ∧ true = !(oK tx n i).1 ∧ ¬ (oK tx n i).1 = true := by
      intro j hj q
      rw [e]
      by_cases z : ch tx n (i + 1) (nI 45)
      · rw [if_pos z] at hj ⊢
        have hj : j = i + 2 := hj
        subst hj
        exact ⟨by show _ = nE tx n (i + 2); unfold nE; rw [if_neg q], by show true = !decide (dg tx n (i + 2)); rw [decide_eq_false q]; rfl, fun y => q (of_decide_eq_true y)⟩
      · rw [if_neg z] at hj ⊢
        subst hj
        exact ⟨by show _ = nE tx n (i + 1); unfold nE; rw [if_neg q], by show true = !decide (dg tx n (i + 1)); rw [decide_eq_false q]; rfl, fun y => q (of_decide_eq_true y)⟩
    refine g_icmp_ne (tgt := 103) dX7_readOrder_93 (by decide) (fun hq => absurd hq ((fun q => q h116))) (fun _ => ?_)
    refine g_aload_n dX7_readOrder_96 rfl ?_
    refine g_callVw (Y := YX7_signed) sv_X7_244 rfl yn_X7_signed 9 (by decide) rfl rfl dX7_readOrder_97 (k_signed (P := pW (fun v V5 => ∃ x1, v = .int x1 ∧ ∃ p1 w1, Pf V3 V5 m ∧ V5 m 13 = .int (nI p1) ∧ V5 m 14 = .int (bi (w1 = true)) ∧ p1 = (oK tx n i).2.1 ∧ w1 = !(oK tx n i).1 ∧ ((oK tx n i).1 = true → (oK tx n i).2.2 = (tx i, x1, 0, 0))) sh sz) hT (fun j hj q V' a b c => ⟨_, rfl, rfl, rfl, _, rfl, _, false, a, b, c, (tS1 j hj q).1, (tS1 j hj q).2.1, fun _ => (tS1 j hj q).2.2⟩) (fun j x hj q V' a b c => ⟨_, rfl, rfl, rfl, _, rfl, _, true, a, b, c, (tS2 j hj q).1, (tS2 j hj q).2.1, fun y => absurd y (tS2 j hj q).2.2⟩)) h0 rfl rfl rfl (Nat.le_of_ble_eq_true rfl) ⟨rfl, rfl⟩ (fun v V5 q => ?_)
    obtain ⟨x1, rfl, q⟩ := q
    have o := one V5 x1 q
    refine g_jump (tgt := 126) dX7_readOrder_100 (by decide) ?_
    exact o
  refine g_icmp_ne (tgt := 103) dX7_readOrder_93 (by decide) (fun _ => ?_) (fun hq => absurd hq (h116))
  by_cases h100 : tx i = nI 100
  · refine g_iload_n dX7_readOrder_103 rfl ?_
    refine g_bipush (v := nI 100) dX7_readOrder_104 (by decide) ?_
    refine g_icmp_eq (tgt := 115) dX7_readOrder_106 (by decide) (fun _ => ?_) (fun hq => absurd (h100) hq)
    exact num (Or.inl h100)
  refine g_iload_n dX7_readOrder_103 rfl ?_
  refine g_bipush (v := nI 100) dX7_readOrder_104 (by decide) ?_
  refine g_icmp_eq (tgt := 115) dX7_readOrder_106 (by decide) (fun hq => absurd hq (h100)) (fun _ => ?_)
  by_cases h112 : tx i = nI 112
  · refine g_iload_n dX7_readOrder_109 rfl ?_
    refine g_bipush (v := nI 112) dX7_readOrder_110 (by decide) ?_
    refine g_icmp_ne (tgt := 122) dX7_readOrder_112 (by decide) (fun hq => absurd hq ((fun q => q h112))) (fun _ => ?_)
    exact num (Or.inr h112)
  refine g_iload_n dX7_readOrder_109 rfl ?_
  refine g_bipush (v := nI 112) dX7_readOrder_110 (by decide) ?_
  refine g_icmp_ne (tgt := 122) dX7_readOrder_112 (by decide) (fun _ => ?_) (fun hq => absurd hq (h112))
  by_cases h106 : tx i = nI 106
  rotate_left
  · refine dig ?_
    rcases hL with q | q | q | q | q | q
    · exact absurd q h100
    · exact Or.inl q
    · exact Or.inr q
    · exact absurd q h116
    · exact absurd q h106
    · exact absurd q h112
  have e := oK_j (tx := tx) (n := n) (i := i) ⟨hlt, h106⟩
  refine g_aload_n dX7_readOrder_122 rfl ?_
  refine g_callVw (Y := YX7_digit) sv_X7_228 rfl yn_X7_digit 9 (by decide) rfl rfl dX7_readOrder_123 (k_digit (P := pW (fun v V5 => ∃ x1, v = .int x1 ∧ ∃ p1 w1, Pf V3 V5 m ∧ V5 m 13 = .int (nI p1) ∧ V5 m 14 = .int (bi (w1 = true)) ∧ p1 ≤ n ∧ (w1 = false → dg tx n (i + 1) ∧ p1 = i + 2 ∧ x1 = tx (i + 1) - nI 48) ∧ (w1 = true → oK tx n i = (false, p1, (0, 0, 0, 0)))) sh sz) hT (fun q V' a b c => ⟨_, rfl, rfl, rfl, _, rfl, _, false, a, b, c, ((hr_dg _).mp q).1, fun _ => ⟨(hr_dg _).mp q, rfl, rfl⟩, fun z => nomatch z⟩) (fun q V' a b c => ⟨_, rfl, rfl, rfl, _, rfl, _, true, a, b, c, hlt, fun z => (nomatch z), fun _ => by rw [e, if_pos (fun z => q ((hr_dg _).mpr z))]⟩)) h0 rfl rfl rfl (Nat.le_of_ble_eq_true rfl) ⟨rfl, rfl⟩ (fun v V5 q => ?_)
  obtain ⟨x1, rfl, p1, w1, hF, u13, u14, hp1, hA1, hA2⟩ := q
  have h57 : V5 (m + 7) = V3 (m + 7) := hF.1 _ (by omega)
  have o5 : V5 m 16 = .ref (m + 7) := (hF.2 _ (by decide) (by decide)).trans o16
  have hr5 := hr3.pf hF
  have u17 : V5 m 17 = .int (nI om) := (hF.2 _ (by decide) (by decide)).trans z17
  refine g_iastore dX7_readOrder_126 h7 (vp_in_nI (by omega) (by decide)) ?_
  rw [nI_clamp (by omega)]
  have em : hu V5 (m + 7) (4 * om + 1) (.int x1) m = V5 m := hu_ne _ _ _ (by omega)
  have t0 : hu V5 (m + 7) (4 * om + 1) (.int x1) (m + 7) (4 * om) = .int (tx i) := (hu_at_ne _ _ _ (by omega)).trans ((congrFun h57 _).trans q0)
  have t1 : hu V5 (m + 7) (4 * om + 1) (.int x1) (m + 7) (4 * om + 1) = .int x1 := hu_at _ _ _ _
  have tk : ∀ k, k < 4 * om → hu V5 (m + 7) (4 * om + 1) (.int x1) (m + 7) k = V (m + 7) k := fun k hk => (hu_at_ne _ _ _ (by omega)).trans ((congrFun h57 _).trans (qk k hk))
  have hr6 : Ro V (hu V5 (m + 7) (4 * om + 1) (.int x1)) m := hr5.st
  have o6 := (congrFun em 16).trans o5
  have s17 := (congrFun em 17).trans u17
  have hT6 : Tx sh (hu V5 (m + 7) (4 * om + 1) (.int x1)) m n tx p1 w1 := h.ro hr6 hp1 ((congrFun em 13).trans u13) ((congrFun em 14).trans u14)
  clear em u17 u13 u14 h57 o5 hr5
  generalize hu V5 (m + 7) (4 * om + 1) (.int x1) = V6 at t0 t1 tk hr6 o6 s17 hT6 ⊢
  refine g_aload_n dX7_readOrder_127 rfl ?_
  refine g_get 9 rfl (by decide) inX7 16 (by decide) fl_X7_33 dX7_readOrder_128 h0 o6 ?_
  refine g_iload_n dX7_readOrder_131 rfl ?_
  refine g_iconst (v := nI 2) dX7_readOrder_132 (by decide) ?_
  refine g_iadd dX7_readOrder_133 ?_
  refine g_iload_n dX7_readOrder_134 rfl ?_
  refine g_bipush (v := nI 106) dX7_readOrder_135 (by decide) ?_
  rw [nI_add]
  refine g_icmp_ne (tgt := 149) dX7_readOrder_137 (by decide) (fun hq => absurd hq ((fun q => q h106))) (fun _ => ?_)
  have B1 : w1 = false → ch tx n p1 (nI 58) → dg tx n (p1 + 1) → p1 + 2 ≤ n ∧ w1 = false ∧ ch tx n (i + 2) (nI 58) ∧ dg tx n (i + 3) ∧ p1 + 2 = i + 4 ∧ tx (p1 + 1) - nI 48 = tx (i + 3) - nI 48 := by
    intro a b c
    obtain ⟨d1, d2, d3⟩ := hA1 a
    subst d2
    exact ⟨c.1, a, b, c, rfl, rfl⟩
  have B2 : w1 = false → ch tx n p1 (nI 58) → ¬ dg tx n (p1 + 1) → p1 + 1 ≤ n ∧ oK tx n i = (false, p1 + 1, (0, 0, 0, 0)) := by
    intro a b c
    obtain ⟨d1, d2, d3⟩ := hA1 a
    subst d2
    exact ⟨b.1, by rw [e, if_neg (fun z => z d1), if_neg (fun z => z b), if_pos c]⟩
  have B3 : ¬ (w1 = false ∧ ch tx n p1 (nI 58)) → oK tx n i = (false, p1, (0, 0, 0, 0)) := by
    intro a
    cases w1 with
    | true => exact hA2 rfl
    | false =>
      obtain ⟨d1, d2, d3⟩ := hA1 rfl
      subst d2
      rw [e, if_neg (fun z => z d1), if_pos (fun z => a ⟨rfl, z⟩)]
  refine g_aload_n dX7_readOrder_140 rfl ?_
  refine g_bipush (v := nI 58) dX7_readOrder_141 (by decide) ?_
  refine g_callVw (Y := YX7_digitBehind) sv_X7_247 rfl yn_X7_digitBehind 9 (by decide) rfl rfl dX7_readOrder_143 (k_digitBehind (P := pW (fun v V7 => ∃ x2, v = .int x2 ∧ ∃ p2 w2, Pf V6 V7 m ∧ V7 m 13 = .int (nI p2) ∧ V7 m 14 = .int (bi (w2 = true)) ∧ p2 ≤ n ∧ (w2 = false → w1 = false ∧ ch tx n (i + 2) (nI 58) ∧ dg tx n (i + 3) ∧ p2 = i + 4 ∧ x2 = tx (i + 3) - nI 48) ∧ (w2 = true → oK tx n i = (false, p2, (0, 0, 0, 0)))) sh sz) hT6 (fun a b d V' x y z => ⟨_, rfl, rfl, rfl, _, rfl, _, false, x, y, z, (B1 a b d).1, fun _ => (B1 a b d).2, fun k => nomatch k⟩) (fun a b d V' x y z => ⟨_, rfl, rfl, rfl, _, rfl, _, true, x, y, z, (B2 a b d).1, fun k => (nomatch k), fun _ => (B2 a b d).2⟩) (fun a V' x y z => ⟨_, rfl, rfl, rfl, _, rfl, _, true, x, y, z, hp1, fun k => (nomatch k), fun _ => B3 a⟩)) h0 rfl rfl rfl (Nat.le_of_ble_eq_true rfl) ⟨rfl, rfl⟩ (fun v V7 q => ?_)
  obtain ⟨x2, rfl, p2, w2, hF, u13, u14, hp2, hC1, hC2⟩ := q
  have h57 : V7 (m + 7) = V6 (m + 7) := hF.1 _ (by omega)
  have o5 : V7 m 16 = .ref (m + 7) := (hF.2 _ (by decide) (by decide)).trans o6
  have hr7 := hr6.pf hF
  have u17 : V7 m 17 = .int (nI om) := (hF.2 _ (by decide) (by decide)).trans s17
  refine g_jump (tgt := 150) dX7_readOrder_146 (by decide) ?_
  refine g_iastore dX7_readOrder_150 h7 (vp_in_nI (by omega) (by decide)) ?_
  rw [nI_clamp (by omega)]
  have em : hu V7 (m + 7) (4 * om + 2) (.int x2) m = V7 m := hu_ne _ _ _ (by omega)
  have t0 : hu V7 (m + 7) (4 * om + 2) (.int x2) (m + 7) (4 * om) = .int (tx i) := (hu_at_ne _ _ _ (by omega)).trans ((congrFun h57 _).trans t0)
  have t1 : hu V7 (m + 7) (4 * om + 2) (.int x2) (m + 7) (4 * om + 1) = .int x1 := (hu_at_ne _ _ _ (by omega)).trans ((congrFun h57 _).trans t1)
  have t2 : hu V7 (m + 7) (4 * om + 2) (.int x2) (m + 7) (4 * om + 2) = .int x2 := hu_at _ _ _ _
  have tk : ∀ k, k < 4 * om → hu V7 (m + 7) (4 * om + 2) (.int x2) (m + 7) k = V (m + 7) k := fun k hk => (hu_at_ne _ _ _ (by omega)).trans ((congrFun h57 _).trans (tk k hk))
  have hr8 : Ro V (hu V7 (m + 7) (4 * om + 2) (.int x2)) m := hr7.st
  have o8 := (congrFun em 16).trans o5
  have s17 := (congrFun em 17).trans u17
  have hT8 : Tx sh (hu V7 (m + 7) (4 * om + 2) (.int x2)) m n tx p2 w2 := h.ro hr8 hp2 ((congrFun em 13).trans u13) ((congrFun em 14).trans u14)
  clear em u17 u13 u14 h57 o5 hr7
  generalize hu V7 (m + 7) (4 * om + 2) (.int x2) = V8 at t0 t1 t2 tk hr8 o8 s17 hT8 ⊢
  refine g_aload_n dX7_readOrder_151 rfl ?_
  refine g_get 9 rfl (by decide) inX7 16 (by decide) fl_X7_33 dX7_readOrder_152 h0 o8 ?_
  refine g_iload_n dX7_readOrder_155 rfl ?_
  refine g_iconst (v := nI 3) dX7_readOrder_156 (by decide) ?_
  refine g_iadd dX7_readOrder_157 ?_
  refine g_iload_n dX7_readOrder_158 rfl ?_
  refine g_bipush (v := nI 106) dX7_readOrder_159 (by decide) ?_
  rw [nI_add]
  refine g_icmp_ne (tgt := 173) dX7_readOrder_161 (by decide) (fun hq => absurd hq ((fun q => q h106))) (fun _ => ?_)
  have D1 : w2 = false → ch tx n p2 (nI 46) → dg tx n (p2 + 1) → p2 + 2 ≤ n ∧ oK tx n i = (true, p2 + 2, (tx i, x1, x2, tx (p2 + 1) - nI 48)) := by
    intro a b c
    obtain ⟨d1, d2, d3, d4, d5⟩ := hC1 a
    obtain ⟨f1, f2, f3⟩ := hA1 d1
    subst d4
    rw [d5, f3]
    exact ⟨c.1, by rw [e, if_neg (fun z => z f1), if_neg (fun z => z d2), if_neg (fun z => z d3), if_neg (fun z => z b), if_neg (fun z => z c)]⟩
  have D2 : w2 = false → ch tx n p2 (nI 46) → ¬ dg tx n (p2 + 1) → p2 + 1 ≤ n ∧ oK tx n i = (false, p2 + 1, (0, 0, 0, 0)) := by
    intro a b c
    obtain ⟨d1, d2, d3, d4, d5⟩ := hC1 a
    obtain ⟨f1, f2, f3⟩ := hA1 d1
    subst d4
    exact ⟨b.1, by rw [e, if_neg (fun z => z f1), if_neg (fun z => z d2), if_neg (fun z => z d3), if_neg (fun z => z b), if_pos c]⟩
  have D3 : ¬ (w2 = false ∧ ch tx n p2 (nI 46)) → oK tx n i = (false, p2, (0, 0, 0, 0)) := by
    intro a
    cases w2 with
    | true => exact hC2 rfl
    | false =>
      obtain ⟨d1, d2, d3, d4, d5⟩ := hC1 rfl
      obtain ⟨f1, f2, f3⟩ := hA1 d1
      subst d4
      rw [e, if_neg (fun z => z f1), if_neg (fun z => z d2), if_neg (fun z => z d3), if_pos (fun z => a ⟨rfl, z⟩)]
  refine g_aload_n dX7_readOrder_164 rfl ?_
  refine g_bipush (v := nI 46) dX7_readOrder_165 (by decide) ?_
  refine g_callVw (Y := YX7_digitBehind) sv_X7_247 rfl yn_X7_digitBehind 9 (by decide) rfl rfl dX7_readOrder_167 (k_digitBehind (P := pW (fun v V9 => ∃ x3, v = .int x3 ∧ ∃ p3 w3, Pf V8 V9 m ∧ V9 m 13 = .int (nI p3) ∧ V9 m 14 = .int (bi (w3 = true)) ∧ oK tx n i = (!w3, p3, if w3 = true then (0, 0, 0, 0) else (tx i, x1, x2, x3))) sh sz) hT8 (fun a b d V' x y z => ⟨_, rfl, rfl, rfl, _, rfl, _, false, x, y, z, (D1 a b d).2⟩) (fun a b d V' x y z => ⟨_, rfl, rfl, rfl, _, rfl, _, true, x, y, z, (D2 a b d).2⟩) (fun a V' x y z => ⟨_, rfl, rfl, rfl, _, rfl, _, true, x, y, z, D3 a⟩)) h0 rfl rfl rfl (Nat.le_of_ble_eq_true rfl) ⟨rfl, rfl⟩ (fun v V9 q => ?_)
  obtain ⟨x3, rfl, p3, w3, hF, u13, u14, hq⟩ := q
  have h57 : V9 (m + 7) = V8 (m + 7) := hF.1 _ (by omega)
  have f := fin V9 x3 p3 w3 (hr8.pf hF) ((hF.2 _ (by decide) (by decide)).trans s17) u13 u14 (by rw [hq]) (by rw [hq]; cases w3 <;> rfl) (fun q => by
    rw [hq] at q ⊢
    cases w3 with
    | true => cases q
    | false => exact ⟨(congrFun h57 _).trans t0, (congrFun h57 _).trans t1, (congrFun h57 _).trans t2, rfl⟩) (fun k hk => (congrFun h57 _).trans (tk k hk))
  refine g_jump (tgt := 174) dX7_readOrder_170 (by decide) ?_
  exact f
end REF19

