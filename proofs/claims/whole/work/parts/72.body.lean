/-! the law as a whole: both objects made, the script read to its end -/
section BODY
variable {E : gE} {P : gP} {sh : Sh} {sz : Nat} {V : Vl} {cu su x i : Nat} {S : St} {z6 z7 : Option Value} {tb : List ExceptionTableEntry} {nm : String}
def PLaw : gP := fun o _ _ _ => o = .inl (some (.int (nI 1)))
theorem and63 (a : Int32) : ∃ k, k < 64 ∧ a &&& nI 63 = nI k := by
  refine ⟨(a &&& nI 63).toUInt32.toNat, ?_, ?_⟩
  · have h : (a &&& nI 63).toUInt32 = a.toUInt32 &&& 63 := rfl
    rw [h, UInt32.toNat_and]
    have h2 : (63 : UInt32).toNat = 2 ^ 6 - 1 := by decide
    rw [h2, Nat.and_two_pow_sub_one_eq_mod]
    exact Nat.mod_lt _ (by decide)
  · exact u32_nI (a &&& nI 63).toUInt32
/-- the call's number, and what it comes to -/
theorem la_case {k : Nat} (hk : k < 64) (hL : LI E sh sz V x S) (hi : i + 5 ≤ E.2.2.2.2.2.2.1) (hc : cu + 2 ≤ 603072) (hs : su + 12 ≤ 7215210) (hn : LK E tb nm P x i cu su) : G E (ML_law tb nm) P sh sz V cu su 44 [some (.ref E.2.2.2.2.2.1), some (.ref x), some (.ref (x + 284)), some (.ref (x + 292)), some (.ref (x + 293)), some (.int (nI i)), z6, z7] [.int (nI k)] := by
  match k, hk with
  | 0, _ => exact g_tableIn (off := 160) (tgt := 204) dL_law_44 (by decide) (by decide) (by decide +kernel) (by decide) (la_set hL hi hc hs hn)
  | 1, _ => exact g_tableIn (off := 228) (tgt := 272) dL_law_44 (by decide) (by decide) (by decide +kernel) (by decide) (la_setting hL hi hc hs hn)
  | 2, _ => exact g_tableIn (off := 284) (tgt := 328) dL_law_44 (by decide) (by decide) (by decide +kernel) (by decide) (la_drill hL hi hc hs hn)
  | 3, _ => exact g_tableIn (off := 340) (tgt := 384) dL_law_44 (by decide) (by decide) (by decide +kernel) (by decide) (la_drilled hL hi hc hs hn)
  | 4, _ => exact g_tableIn (off := 396) (tgt := 440) dL_law_44 (by decide) (by decide) (by decide +kernel) (by decide) (la_mileOf hL hi hc hs hn)
  | 5, _ => exact g_tableIn (off := 464) (tgt := 508) dL_law_44 (by decide) (by decide) (by decide +kernel) (by decide) (la_ice hL hi hc hs hn)
  | 6, _ => exact g_tableIn (off := 542) (tgt := 586) dL_law_44 (by decide) (by decide) (by decide +kernel) (by decide) (la_bears hL hi hc hs hn)
  | 7, _ => exact g_tableIn (off := 598) (tgt := 642) dL_law_44 (by decide) (by decide) (by decide +kernel) (by decide) (la_sign hL hi hc hs hn)
  | 8, _ => exact g_tableIn (off := 654) (tgt := 698) dL_law_44 (by decide) (by decide) (by decide +kernel) (by decide) (la_weakest hL hi hc hs hn)
  | 9, _ => exact g_tableIn (off := 667) (tgt := 711) dL_law_44 (by decide) (by decide) (by decide +kernel) (by decide) (la_truck hL hi hc hs hn)
  | 10, _ => exact g_tableIn (off := 759) (tgt := 803) dL_law_44 (by decide) (by decide) (by decide +kernel) (by decide) (la_inRow hL hi hc hs hn)
  | 11, _ => exact g_tableIn (off := 839) (tgt := 883) dL_law_44 (by decide) (by decide) (by decide +kernel) (by decide) (la_convoy hL hi hc hs hn)
  | 12, _ => exact g_tableIn (off := 895) (tgt := 939) dL_law_44 (by decide) (by decide) (by decide +kernel) (by decide) (la_join hL hi hc hs hn)
  | 13, _ => exact g_tableIn (off := 975) (tgt := 1019) dL_law_44 (by decide) (by decide) (by decide +kernel) (by decide) (la_start hL hi hc hs hn)
  | 14, _ => exact g_tableIn (off := 1031) (tgt := 1075) dL_law_44 (by decide) (by decide) (by decide +kernel) (by decide) (la_roll hL hi hc hs hn)
  | 15, _ => exact g_tableIn (off := 1087) (tgt := 1131) dL_law_44 (by decide) (by decide) (by decide +kernel) (by decide) (la_why hL hi hc hs hn)
  | 16, _ => exact g_tableIn (off := 1171) (tgt := 1215) dL_law_44 (by decide) (by decide) (by decide +kernel) (by decide) (la_convoyOf hL hi hc hs hn)
  | 17, _ => exact g_tableIn (off := 1239) (tgt := 1283) dL_law_44 (by decide) (by decide) (by decide +kernel) (by decide) (la_truckOf hL hi hc hs hn)
  | 18, _ => exact g_tableIn (off := 1319) (tgt := 1363) dL_law_44 (by decide) (by decide) (by decide +kernel) (by decide) (la_load hL hi hc hs hn)
  | 19, _ => exact g_tableIn (off := 1409) (tgt := 1453) dL_law_44 (by decide) (by decide) (by decide +kernel) (by decide) (la_at hL hi hc hs hn)
  | 20, _ => exact g_tableIn (off := 1465) (tgt := 1509) dL_law_44 (by decide) (by decide) (by decide +kernel) (by decide) (la_rolls hL hi hc hs hn)
  | 21, _ => exact g_tableIn (off := 1521) (tgt := 1565) dL_law_44 (by decide) (by decide) (by decide +kernel) (by decide) (la_rollsAgain hL hi hc hs hn)
  | 22, _ => exact g_tableIn (off := 1577) (tgt := 1621) dL_law_44 (by decide) (by decide) (by decide +kernel) (by decide) (la_iceIn hL hi hc hs hn)
  | 23, _ => exact g_tableIn (off := 1645) (tgt := 1689) dL_law_44 (by decide) (by decide) (by decide +kernel) (by decide) (la_bearsIn hL hi hc hs hn)
  | 24, _ => exact g_tableIn (off := 1713) (tgt := 1757) dL_law_44 (by decide) (by decide) (by decide +kernel) (by decide) (la_pass hL hi hc hs hn)
  | 25, _ => exact g_tableIn (off := 1769) (tgt := 1813) dL_law_44 (by decide) (by decide) (by decide +kernel) (by decide) (la_append hL hi hc hs hn)
  | 26, _ => exact g_tableIn (off := 1827) (tgt := 1871) dL_law_44 (by decide) (by decide) (by decide +kernel) (by decide) (la_read hL hi hc hs hn)
  | 27, _ => exact g_tableIn (off := 1871) (tgt := 1915) dL_law_44 (by decide) (by decide) (by decide +kernel) (by decide) (la_errorPosition hL hi hc hs hn)
  | 28, _ => exact g_tableIn (off := 1884) (tgt := 1928) dL_law_44 (by decide) (by decide) (by decide +kernel) (by decide) (la_refusal hL hi hc hs hn)
  | 29, _ => exact g_tableIn (off := 1956) (tgt := 2000) dL_law_44 (by decide) (by decide) (by decide +kernel) (by decide) (la_account hL hi hc hs hn)
  | 30, _ => exact g_tableIn (off := 2012) (tgt := 2056) dL_law_44 (by decide) (by decide) (by decide +kernel) (by decide) (la_isWell hL hi hc hs hn)
  | 31, _ => exact g_tableIn (off := 2025) (tgt := 2069) dL_law_44 (by decide) (by decide) (by decide +kernel) (by decide) (la_meanBits hL hi hc hs hn)
  | 32, _ => exact g_tableIn (off := 2039) (tgt := 2083) dL_law_44 (by decide) (by decide) (by decide +kernel) (by decide) (la_share hL hi hc hs hn)
  | 33, _ => exact g_tableIn (off := 2105) (tgt := 2149) dL_law_44 (by decide) (by decide) (by decide +kernel) (by decide) (la_undo hL hi hc hs hn)
  | 34, _ => exact g_tableIn (off := 2149) (tgt := 2193) dL_law_44 (by decide) (by decide) (by decide +kernel) (by decide) (la_save hL hi hc hs hn)
  | 35, _ => exact g_tableIn (off := 2162) (tgt := 2206) dL_law_44 (by decide) (by decide) (by decide +kernel) (by decide) (la_restore hL hi hc hs hn)
  | k + 36, h =>
    refine g_tableOut (tgt := 2250) dL_law_44 (Or.inr ?_) (by decide) (g_widen (cu + 2) (su + 12) (by omega) (by omega) (hn _ _ _ _ _ _ hL))
    rw [nI_toInt (by omega)]
    omega
theorem la_loop : ∀ (d i cu su : Nat) (sh : Sh) (sz : Nat) (V : Vl) (S : St) (z6 z7 : Option Value), LI E sh sz V x S → E.2.2.2.2.2.2.1 ≤ i + 5 * d → cu + 2 * d ≤ 603072 → su + 12 * d ≤ 7215210 → i ≤ 2560 → G E (ML_law tb nm) PLaw sh sz V cu su 28 [some (.ref E.2.2.2.2.2.1), some (.ref x), some (.ref (x + 284)), some (.ref (x + 292)), some (.ref (x + 293)), some (.int (nI i)), z6, z7] [] := by
  intro d
  induction d with
  | zero =>
    intro i cu su sh sz V S z6 z7 hL hd hc hs hi
    have hlen := hL.2.2.2.2.2.2.2
    refine g_iload dL_law_28 rfl ?_
    refine g_aload_n dL_law_30 rfl ?_
    refine g_slen dL_law_31 ?_
    refine g_iconst (v := nI 5) dL_law_32 (by decide) ?_
    refine g_isub dL_law_33 ?_
    refine g_icmp_gt (tgt := 2256) dL_law_34 (by decide) (fun _ => ?_) (fun hq => absurd ((by rw [fa_lt, pk_sub_toInt (by omega) (by decide), nI_toInt (by omega)]; omega)) hq)
    refine g_iconst (v := nI 1) dL_law_2256 (by decide) ?_
    exact g_iret rfl nz1 dL_law_2257 ⟨by show cu ≤ 603072; omega, by show su ≤ 7215210; omega⟩ rfl
  | succ d ih =>
    intro i cu su sh sz V S z6 z7 hL hd hc hs hi
    have hlen := hL.2.2.2.2.2.2.2
    refine g_iload dL_law_28 rfl ?_
    refine g_aload_n dL_law_30 rfl ?_
    refine g_slen dL_law_31 ?_
    refine g_iconst (v := nI 5) dL_law_32 (by decide) ?_
    refine g_isub dL_law_33 ?_
    refine g_icmp_gt (tgt := 2256) dL_law_34 (by decide) (fun b1 => ?_) (fun b1 => ?_)
    · refine g_iconst (v := nI 1) dL_law_2256 (by decide) ?_
      exact g_iret rfl nz1 dL_law_2257 ⟨by show cu ≤ 603072; omega, by show su ≤ 7215210; omega⟩ rfl
    · rw [fa_lt, pk_sub_toInt (by omega) (by decide), nI_toInt (by omega)] at b1
      have hi5 : i + 5 ≤ E.2.2.2.2.2.2.1 := by omega
      refine g_aload_n dL_law_37 rfl ?_
      refine g_iload dL_law_38 rfl ?_
      refine g_sld (k := i) dL_law_40 rfl (by omega) hlen ?_
      refine g_bipush (v := nI 63) dL_law_41 (by decide) ?_
      refine g_iand dL_law_43 ?_
      obtain ⟨k, hk, ek⟩ := and63 (E.2.2.2.2.2.2.2 i)
      rw [ek]
      refine la_case hk hL hi5 (by omega) (by omega) ?_
      intro sh' sz' V' S' y6 y7 hL'
      refine g_iinc dL_law_2250 rfl (show nI i + Int32.ofInt 5 = nI (i + 5) from by rw [show Int32.ofInt 5 = nI 5 by decide, nI_add]) (Nat.le_of_ble_eq_true rfl) rfl ?_
      show G _ _ _ _ _ _ _ _ _ [_, _, _, _, _, _, _, _] _
      refine g_jump (tgt := 28) dL_law_2253 (by decide) ?_
      exact ih (i + 5) (cu + 2) (su + 12) sh' sz' V' S' y6 y7 hL' (by omega) (by omega) (by omega) (by omega)
/-- behind the class' constructor -/
def PX6 (x : Nat) : gP := fun o sh' sz' V' => sz' = x + 284 ∧ (∀ H tx, CAt sh' V' x f0 none H 0 tx 0 (-1) (nI 0, nI 0)) ∧ (∀ a, x + 284 ≤ a → (sh' a).1 = 0) ∧ o = .inl none
/-- behind the reference's -/
def PX7 (m : Nat) (sh : Sh) (V : Vl) : gP := fun o sh' sz' V' => sz' = m + 8 ∧ (∀ a, a < m → sh' a = sh a ∧ V' a = V a) ∧ (∀ a, m + 8 ≤ a → sh' a = sh a) ∧ (∀ H tx, MS sh' V' m (f0, none, H, 0, tx, 0, -1, (nI 0, nI 0)) 0) ∧ o = .inl none
theorem law_all {V : Vl} (hlen : E.2.2.2.2.2.2.1 ≤ 2560) : G E (ML_law tb nm) PLaw (fun _ => (0, 0)) x V 0 0 0 [some (.ref E.2.2.2.2.2.1), none, none, none, none, none, none, none] [] := by
  refine g_new 8 rfl (by decide) inX6 tyX6 tyX6_ok cl_L_8 new_X6 ini_X6 dL_law_0 ⟨Nat.le_of_ble_eq_true rfl, Nat.le_of_ble_eq_true rfl⟩ ?_
  refine g_dup dL_law_3 rfl ?_
  refine g_callI (M := (ML_law tb nm)) (pc := 4) (Y := YX6_init) rfl wc_X6_init ml_L_126 wi_X6_init ini_X6 rfl yn_X6_init dL_law_4 (c_IceConvoys_init (P := PX6 x) ((congrArg Prod.fst (hs_at _ _ _))) rfl (fun a ha => congrArg Prod.fst (hs_ne _ _ (by omega))) (fun sh' V' h1 h2 h3 => ⟨rfl, h3, fun a ha => by rw [h2 a ha, hs_ne _ _ (by omega)], rfl⟩)) rfl rfl (gRoom_of rfl) (Nat.le_of_ble_eq_true rfl) (fun _ _ _ _ h => by rw [h.1]; omega) (fun _ _ _ _ h => nomatch h.2.2.2) ?_
  rintro v sh1 sz1 V1 ⟨rfl, hC1, hW1, hv⟩
  cases hv
  refine g_astore_n dL_law_7 (Nat.le_of_ble_eq_true rfl) rfl ?_
  show G _ _ _ _ _ _ _ _ _ [_, _, _, _, _, _, _, _] _
  refine g_new 9 rfl (by decide) inX7 tyX7 tyX7_ok cl_L_127 new_X7 ini_X7 dL_law_8 ⟨Nat.le_of_ble_eq_true rfl, Nat.le_of_ble_eq_true rfl⟩ ?_
  refine g_dup dL_law_11 rfl ?_
  refine g_callI (M := (ML_law tb nm)) (pc := 12) (Y := YX7_init) rfl wc_X7_init ml_L_129 wi_X7_init ini_X7 rfl yn_X7_init dL_law_12 (r_init (P := PX7 (x + 284) (hs sh1 (x + 284) (10, 18)) (hn V1 (x + 284) (fun k => defaultValue (tyX7 k)))) ((congrArg Prod.fst (hs_at _ _ _))) (fun k => congrFun (hn_at _ _ _) k) rfl (fun sh' V' h1 h2 h3 => ⟨rfl, h1, h2, h3, rfl⟩)) rfl rfl (gRoom_of rfl) (Nat.le_of_ble_eq_true rfl) (fun _ _ _ _ h => by rw [h.1]; omega) (fun _ _ _ _ h => nomatch h.2.2.2.2) ?_
  rintro v sh2 sz2 V2 ⟨rfl, k1, k2, hM2, hv⟩
  cases hv
  have hlow : ∀ a, a < x + 284 → sh2 a = sh1 a ∧ V2 a = V1 a := fun a ha => ⟨((k1 a ha).1).trans (hs_ne _ _ (by omega)), ((k1 a ha).2).trans (hn_ne _ _ (by omega))⟩
  have hhi : ∀ a, x + 292 ≤ a → (sh2 a).1 = 0 := fun a ha => by rw [k2 a (by omega), hs_ne _ _ (by omega)]; exact hW1 a (by omega)
  refine g_astore_n dL_law_15 (Nat.le_of_ble_eq_true rfl) rfl ?_
  show G _ _ _ _ _ _ _ _ _ [_, _, _, _, _, _, _, _] _
  refine g_iconst (v := nI 1) dL_law_16 (by decide) ?_
  refine g_newa 22 (atype := .long) rfl (by decide) (by decide) arr_long 1 (by decide) (by decide) (Nat.le_of_ble_eq_true rfl) dL_law_17 ⟨Nat.le_of_ble_eq_true rfl, Nat.le_of_ble_eq_true rfl⟩ ?_
  refine g_astore_n dL_law_19 (Nat.le_of_ble_eq_true rfl) rfl ?_
  show G _ _ _ _ _ _ _ _ _ [_, _, _, _, _, _, _, _] _
  refine g_iconst (v := nI 1) dL_law_20 (by decide) ?_
  refine g_newa 23 (atype := .double) rfl (by decide) (by decide) arr_double 1 (by decide) (by decide) (Nat.le_of_ble_eq_true rfl) dL_law_21 ⟨Nat.le_of_ble_eq_true rfl, Nat.le_of_ble_eq_true rfl⟩ ?_
  refine g_astore dL_law_23 (Nat.le_of_ble_eq_true rfl) rfl ?_
  show G _ _ _ _ _ _ _ _ _ [_, _, _, _, _, _, _, _] _
  refine g_iconst (v := nI 0) dL_law_25 (by decide) ?_
  refine g_istore dL_law_26 (Nat.le_of_ble_eq_true rfl) rfl ?_
  show G _ _ _ _ _ _ _ _ _ [_, _, _, _, _, _, _, _] _
  have hl : ∀ a, a < x + 292 → hs (hs sh2 (x + 292) (22, 1)) (x + 293) (23, 1) a = sh2 a := fun a ha => (hs_ne _ _ (by omega)).trans (hs_ne _ _ (by omega))
  have hv : ∀ a, a < x + 292 → hn (hn V2 (x + 292) (fun _ => defaultValue (gty 22))) (x + 293) (fun _ => defaultValue (gty 23)) a = V2 a := fun a ha => (hn_ne _ _ (by omega)).trans (hn_ne _ _ (by omega))
  refine la_loop 513 0 _ _ _ _ _ (f0, none, fun _ => f0, 0, fun _ => 0, 0, -1, (nI 0, nI 0)) _ _ ⟨?_, S0_S, ⟨0, ?_⟩, ?_, ?_, ?_, ?_, hlen⟩ (by omega) (by decide) (by decide) (by omega)
  · exact CAt.grow (hC1 (fun _ => f0) (fun _ => 0)) (sz := x + 284) (fun a ha => hW1 a ha) (fun a ha => ⟨(hl a (by omega)).trans (hlow a ha).1, (hv a (by omega)).trans (hlow a ha).2⟩)
  · exact (hM2 (fun _ => f0) (fun _ => 0)).move (fun a h1 h2 => ⟨hl a (by omega), hv a (by omega)⟩)
  · intro a ha
    rw [hs_ne _ _ (by omega), hs_ne _ _ (by omega)]
    exact hhi a (by omega)
  · rw [hs_ne _ _ (by omega)]
    exact hs_at _ _ _
  · exact hs_at _ _ _
  · show x + 294 ≤ x + 284 + 8 + 1 + 1
    omega
end BODY

