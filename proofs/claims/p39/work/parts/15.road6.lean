/-! what changes a Road: the methods -/
section ROAD6
/-- mile j drilled -/
def drF (f : Fl) (j : Nat) : Fl := upd (upd (upd f (oM j 3) (f (oM j 0))) (oM j 4) (f 0)) 2 (f 2 + nI 1)
/-- a truck of strain x has come to mile j -/
def carF (f : Fl) (j : Nat) (x : Int32) : Fl :=
  if nI 20 ≤ f (oM j 2) + x then upd (upd (upd f (oM j 5) (f (oM j 5) + nI 1)) (oM j 2) (f (oM j 2) + x - nI 20)) (oM j 1) (if nI 5 < f (oM j 1) + nI 1 then nI 5 else f (oM j 1) + nI 1)
  else upd (upd f (oM j 5) (f (oM j 5) + nI 1)) (oM j 2) (f (oM j 2) + x)
/-- a day of mile j -/
def dayM (f : Fl) (j : Nat) : Fl := upd (upd f (oM j 0) (niF (f (oM j 0)).toUInt32 (f 5)).toInt32) (oM j 1) (if f 5 < -20 then (if f (oM j 1) - nI 1 < nI 0 then nI 0 else f (oM j 1) - nI 1) else f (oM j 1))
def dayN (f : Fl) : Nat → Fl
  | 0 => f
  | j + 1 => dayM (dayN f j) j
def dayF (f : Fl) : Fl := upd (dayN f 12) 0 (dayN f 12 0 + nI 1)
def passF (f : Fl) : Nat → Fl
  | 0 => f
  | n + 1 => dayF (passF f n)
theorem oM_ne {j a b : Nat} (h : a ≠ b) : oM j a ≠ oM j b := by unfold oM; omega
theorem carF_out {f : Fl} {j : Nat} {x : Int32} {k : Nat} (hk : ¬ (8 + 6 * j ≤ k ∧ k < 14 + 6 * j)) : carF f j x k = f k := by
  have h1 : k ≠ oM j 1 := by unfold oM; omega
  have h2 : k ≠ oM j 2 := by unfold oM; omega
  have h5 : k ≠ oM j 5 := by unfold oM; omega
  unfold carF
  split <;> simp [upd, h1, h2, h5]
theorem dayM_out {f : Fl} {j : Nat} {k : Nat} (hk : ¬ (8 + 6 * j ≤ k ∧ k < 14 + 6 * j)) : dayM f j k = f k := by
  have h1 : k ≠ oM j 1 := by unfold oM; omega
  have h0 : k ≠ oM j 0 := by unfold oM; omega
  unfold dayM
  simp [upd, h1, h0]
theorem i_u (x : UInt32) : x.toInt32.toUInt32 = x := by simp
theorem carF_inv {f : Fl} {j n : Nat} (hI : InvB f) (hj : j < 12) (hn : n ≤ 20) : InvB (carF f j (nI n)) := by
  obtain ⟨a, b, ⟨c, hc, ec⟩, s, hs, es⟩ := hI.2.2.2.1 j hj
  refine InvB.mile hI ?_ (fun k hk => carF_out hk) hj
  have e : f (oM j 2) + nI n = nI (s + n) := by rw [es, nI_add]
  have e2 : f (oM j 1) + nI 1 = nI (c + 1) := by rw [ec, nI_add]
  have w01 : oM j 0 ≠ oM j 1 := oM_ne (by decide)
  have w02 : oM j 0 ≠ oM j 2 := oM_ne (by decide)
  have w05 : oM j 0 ≠ oM j 5 := oM_ne (by decide)
  have w31 : oM j 3 ≠ oM j 1 := oM_ne (by decide)
  have w32 : oM j 3 ≠ oM j 2 := oM_ne (by decide)
  have w35 : oM j 3 ≠ oM j 5 := oM_ne (by decide)
  have w21 : oM j 2 ≠ oM j 1 := oM_ne (by decide)
  have w12 : oM j 1 ≠ oM j 2 := oM_ne (by decide)
  have w15 : oM j 1 ≠ oM j 5 := oM_ne (by decide)
  unfold carF iM
  rw [e, e2]
  by_cases q : nI 20 ≤ nI (s + n)
  · have q2 := (nI_leI (a := 20) (b := s + n) (by decide) (by omega)).mp q
    rw [if_pos q]
    refine ⟨by simp only [upd, w01, w02, w05, if_false]; exact a, by simp only [upd, w31, w32, w35, if_false]; exact b, ?_, ?_⟩
    · simp only [upd, if_true]
      by_cases z : nI 5 < nI (c + 1)
      · exact ⟨5, by decide, by rw [if_pos z]⟩
      · rw [nI_ltI (by decide) (by omega)] at z
        exact ⟨c + 1, by omega, by rw [if_neg (nI_nlt (by omega) (by decide))]⟩
    · simp only [upd, w21, if_false, if_true]
      exact ⟨s + n - 20, by omega, pk_sub q2⟩
  · have q2 : s + n < 20 := by
      rw [nI_leI (by decide) (by omega)] at q
      omega
    rw [if_neg q]
    refine ⟨by simp only [upd, w02, w05, if_false]; exact a, by simp only [upd, w32, w35, if_false]; exact b, ?_, ?_⟩
    · simp only [upd, w12, w15, if_false]
      exact ⟨c, hc, ec⟩
    · simp only [upd, if_true]
      exact ⟨s + n, q2, rfl⟩
theorem dayM_inv {f : Fl} {j : Nat} (hI : InvB f) (hj : j < 12) : InvB (dayM f j) := by
  obtain ⟨a, b, ⟨c, hc, ec⟩, s, hs, es⟩ := hI.2.2.2.1 j hj
  refine InvB.mile hI ?_ (fun k hk => dayM_out hk) hj
  have w01 : oM j 0 ≠ oM j 1 := oM_ne (by decide)
  have w31 : oM j 3 ≠ oM j 1 := oM_ne (by decide)
  have w30 : oM j 3 ≠ oM j 0 := oM_ne (by decide)
  have w21 : oM j 2 ≠ oM j 1 := oM_ne (by decide)
  have w20 : oM j 2 ≠ oM j 0 := oM_ne (by decide)
  unfold dayM iM
  refine ⟨by simp only [upd, w01, if_false, if_true, i_u]; exact okI_niF a hI.2.1.1 hI.2.1.2, by simp only [upd, w31, w30, if_false]; exact b, ?_, by simp only [upd, w21, w20, if_false]; exact ⟨s, hs, es⟩⟩
  simp only [upd, if_true]
  rw [ec]
  by_cases q : f 5 < -20
  · rw [if_pos q]
    rcases Nat.eq_zero_or_pos c with z | z
    · subst z
      exact ⟨0, by decide, by decide⟩
    · exact ⟨c - 1, by omega, by rw [pk_sub z, if_neg (nI_nlt (by omega) (by omega))]⟩
  · rw [if_neg q]
    exact ⟨c, hc, rfl⟩
theorem drF_inv {f : Fl} {j : Nat} (hI : InvB f) (hj : j < 12) : InvB (drF f j) := by
  refine InvB.low ?_ (Or.inr (Or.inl rfl))
  obtain ⟨a, b, c, s⟩ := hI.2.2.2.1 j hj
  refine InvB.mile hI ?_ (fun k hk => ?_) hj
  · have w : oM j 0 ≠ oM j 4 ∧ oM j 0 ≠ oM j 3 ∧ oM j 3 ≠ oM j 4 ∧ oM j 1 ≠ oM j 4 ∧ oM j 1 ≠ oM j 3 ∧ oM j 2 ≠ oM j 4 ∧ oM j 2 ≠ oM j 3 := by unfold oM; omega
    unfold iM
    simp only [upd, w, if_false, if_true]
    exact ⟨a, a, c, s⟩
  · have h3 : k ≠ oM j 3 := by unfold oM; omega
    have h4 : k ≠ oM j 4 := by unfold oM; omega
    simp only [upd, h3, h4, if_false]
theorem dayN_inv {f : Fl} (hI : InvB f) : ∀ {j : Nat}, j ≤ 12 → InvB (dayN f j)
  | 0, _ => hI
  | j + 1, h => dayM_inv (dayN_inv hI (j := j) (by omega)) (by omega)
theorem dayF_inv {f : Fl} (hI : InvB f) : InvB (dayF f) := InvB.low (dayN_inv hI (Nat.le_refl 12)) (Or.inl rfl)
theorem passF_inv {f : Fl} (hI : InvB f) : ∀ {n : Nat}, InvB (passF f n)
  | 0 => hI
  | n + 1 => dayF_inv (passF_inv hI (n := n))
theorem dayN_low {f : Fl} {k : Nat} (hk : k < 8) : ∀ {j : Nat}, dayN f j k = f k
  | 0 => rfl
  | j + 1 => by
    rw [dayN, dayM_out (by omega)]
    exact dayN_low hk
theorem oM_all (j : Nat) : oM j 0 ≠ oM j 1 ∧ oM j 0 ≠ oM j 2 ∧ oM j 0 ≠ oM j 3 ∧ oM j 0 ≠ oM j 4 ∧ oM j 0 ≠ oM j 5 ∧ oM j 1 ≠ oM j 0 ∧ oM j 1 ≠ oM j 2 ∧ oM j 1 ≠ oM j 3 ∧ oM j 1 ≠ oM j 4 ∧ oM j 1 ≠ oM j 5 ∧ oM j 2 ≠ oM j 0 ∧ oM j 2 ≠ oM j 1 ∧ oM j 2 ≠ oM j 3 ∧ oM j 2 ≠ oM j 4 ∧ oM j 2 ≠ oM j 5 ∧ oM j 3 ≠ oM j 0 ∧ oM j 3 ≠ oM j 1 ∧ oM j 3 ≠ oM j 2 ∧ oM j 3 ≠ oM j 4 ∧ oM j 3 ≠ oM j 5 ∧ oM j 4 ≠ oM j 0 ∧ oM j 4 ≠ oM j 1 ∧ oM j 4 ≠ oM j 2 ∧ oM j 4 ≠ oM j 3 ∧ oM j 4 ≠ oM j 5 ∧ oM j 5 ≠ oM j 0 ∧ oM j 5 ≠ oM j 1 ∧ oM j 5 ≠ oM j 2 ∧ oM j 5 ≠ oM j 3 ∧ oM j 5 ≠ oM j 4 := by unfold oM; omega
theorem noteO {f : Fl} {j : Nat} {k : Nat} {x y : Int32} (hk : ¬ (8 + 6 * j ≤ k ∧ k < 14 + 6 * j)) : upd (upd f (oM j 3) x) (oM j 4) y k = f k := by
  have h3 : k ≠ oM j 3 := by unfold oM; omega
  have h4 : k ≠ oM j 4 := by unfold oM; omega
  simp only [upd, h3, h4, if_false]
theorem noteM {sh : Sh} {V : Vl} {a j : Nat} {f : Fl} (m0 : (sh a).1 = 5) (m1 : V a 0 = .float (f (oM j 0)).toUInt32) (m2 : V a 1 = .float (f (oM j 3)).toUInt32) (m3 : V a 2 = .int (f (oM j 4))) (m4 : V a 3 = .int (f (oM j 1))) (m5 : V a 4 = .int (f (oM j 2))) (m6 : V a 5 = .int (f (oM j 5))) : MiAt sh (hu (hu V a 1 (.float (f (oM j 0)).toUInt32)) a 2 (.int (f 0))) a ((upd (upd f (oM j 3) (f (oM j 0))) (oM j 4) (f 0)) (oM j 0)) ((upd (upd f (oM j 3) (f (oM j 0))) (oM j 4) (f 0)) (oM j 3)) ((upd (upd f (oM j 3) (f (oM j 0))) (oM j 4) (f 0)) (oM j 4)) ((upd (upd f (oM j 3) (f (oM j 0))) (oM j 4) (f 0)) (oM j 1)) ((upd (upd f (oM j 3) (f (oM j 0))) (oM j 4) (f 0)) (oM j 2)) ((upd (upd f (oM j 3) (f (oM j 0))) (oM j 4) (f 0)) (oM j 5)) := by
  simp [MiAt, hu, updV, upd, oM_all j, m0, m1, m2, m3, m4, m5, m6]
theorem carM1 {sh : Sh} {V : Vl} {a j : Nat} {f : Fl} {x : Int32} (hx : f (oM j 2) + x < nI 20) (m0 : (sh a).1 = 5) (m1 : V a 0 = .float (f (oM j 0)).toUInt32) (m2 : V a 1 = .float (f (oM j 3)).toUInt32) (m3 : V a 2 = .int (f (oM j 4))) (m4 : V a 3 = .int (f (oM j 1))) (m5 : V a 4 = .int (f (oM j 2))) (m6 : V a 5 = .int (f (oM j 5))) : MiAt sh (hu (hu V a 5 (.int (f (oM j 5) + nI 1))) a 4 (.int (f (oM j 2) + x))) a ((carF f j x) (oM j 0)) ((carF f j x) (oM j 3)) ((carF f j x) (oM j 4)) ((carF f j x) (oM j 1)) ((carF f j x) (oM j 2)) ((carF f j x) (oM j 5)) := by
  unfold carF
  rw [if_neg (Int32.not_le.mpr hx)]
  simp [MiAt, hu, updV, upd, oM_all j, m0, m1, m2, m3, m4, m5, m6]
theorem carM2 {sh : Sh} {V : Vl} {a j : Nat} {f : Fl} {x : Int32} (hx : ¬ f (oM j 2) + x < nI 20) (m0 : (sh a).1 = 5) (m1 : V a 0 = .float (f (oM j 0)).toUInt32) (m2 : V a 1 = .float (f (oM j 3)).toUInt32) (m3 : V a 2 = .int (f (oM j 4))) (m4 : V a 3 = .int (f (oM j 1))) (m5 : V a 4 = .int (f (oM j 2))) (m6 : V a 5 = .int (f (oM j 5))) : MiAt sh (hu (hu (hu (hu V a 5 (.int (f (oM j 5) + nI 1))) a 4 (.int (f (oM j 2) + x))) a 4 (.int (f (oM j 2) + x - nI 20))) a 3 (.int (if nI 5 < f (oM j 1) + nI 1 then nI 5 else f (oM j 1) + nI 1))) a ((carF f j x) (oM j 0)) ((carF f j x) (oM j 3)) ((carF f j x) (oM j 4)) ((carF f j x) (oM j 1)) ((carF f j x) (oM j 2)) ((carF f j x) (oM j 5)) := by
  unfold carF
  rw [if_pos (Int32.not_lt.mp hx)]
  simp [MiAt, hu, updV, upd, oM_all j, m0, m1, m2, m3, m4, m5, m6]
theorem dayM1 {sh : Sh} {V : Vl} {a j : Nat} {f : Fl} (hx : -20 ≤ f 5) (m0 : (sh a).1 = 5) (m1 : V a 0 = .float (f (oM j 0)).toUInt32) (m2 : V a 1 = .float (f (oM j 3)).toUInt32) (m3 : V a 2 = .int (f (oM j 4))) (m4 : V a 3 = .int (f (oM j 1))) (m5 : V a 4 = .int (f (oM j 2))) (m6 : V a 5 = .int (f (oM j 5))) : MiAt sh (hu V a 0 (.float (niF (f (oM j 0)).toUInt32 (f 5)))) a ((dayM f j) (oM j 0)) ((dayM f j) (oM j 3)) ((dayM f j) (oM j 4)) ((dayM f j) (oM j 1)) ((dayM f j) (oM j 2)) ((dayM f j) (oM j 5)) := by
  unfold dayM
  rw [if_neg (Int32.not_lt.mpr hx)]
  simp [MiAt, hu, updV, upd, oM_all j, m0, m1, m2, m3, m4, m5, m6]
theorem dayM2 {sh : Sh} {V : Vl} {a j : Nat} {f : Fl} (hx : ¬ -20 ≤ f 5) (m0 : (sh a).1 = 5) (m1 : V a 0 = .float (f (oM j 0)).toUInt32) (m2 : V a 1 = .float (f (oM j 3)).toUInt32) (m3 : V a 2 = .int (f (oM j 4))) (m4 : V a 3 = .int (f (oM j 1))) (m5 : V a 4 = .int (f (oM j 2))) (m6 : V a 5 = .int (f (oM j 5))) : MiAt sh (hu (hu V a 0 (.float (niF (f (oM j 0)).toUInt32 (f 5)))) a 3 (.int (if f (oM j 1) - nI 1 < nI 0 then nI 0 else f (oM j 1) - nI 1))) a ((dayM f j) (oM j 0)) ((dayM f j) (oM j 3)) ((dayM f j) (oM j 4)) ((dayM f j) (oM j 1)) ((dayM f j) (oM j 2)) ((dayM f j) (oM j 5)) := by
  unfold dayM
  rw [if_pos (Int32.not_le.mp hx)]
  simp [MiAt, hu, updV, upd, oM_all j, m0, m1, m2, m3, m4, m5, m6]
variable {E : gE} {M : gM} {P : gP} {sh : Sh} {sz : Nat} {V : Vl} {cu su pc : Nat} {L : List (Option Value)} {rest : List Value} {r : Nat} {f : Fl}
theorem c_noteIce {j : Nat} (h : RoadAt sh V r f) (hj : j < 12) (hP : ∀ V', Fr V V' r → RoadAt sh V' r (drF f j) → P (.inl none) sh sz V') : MC E YX4_noteIce [.ref r, .ref (r + 5 + j)] sh sz V P := by
  obtain ⟨m0, m1, m2, m3, m4, m5, m6⟩ := h.mi hj
  have hne : r ≠ r + 5 + j := by omega
  refine MC.of RX4 "noteIce" rfl (by decide +kernel) rfl 0 [_, _] rfl (Nat.le_of_ble_eq_true rfl) ?_
  show G E MX4_noteIce _ _ _ _ _ _ _ _ _
  refine g_aload_n dX4_noteIce_0 rfl ?_
  refine g_aload_n dX4_noteIce_1 rfl ?_
  refine g_get 4 rfl (by decide) inX2 0 (by decide) fl_X4_65 dX4_noteIce_2 m0 m1 ?_
  refine g_put 4 rfl (by decide) inX2 tyX2 tyX2_ok nmX2 1 (by decide) fl_X4_69 rfl dX4_noteIce_5 m0 rfl rfl ?_
  refine g_aload_n dX4_noteIce_8 rfl ?_
  refine g_aload_n dX4_noteIce_9 rfl ?_
  refine g_get 6 rfl (by decide) inX4 1 (by decide) fl_X4_15 dX4_noteIce_10 h.1.1 ((congrFun (hu_ne _ _ _ hne) _).trans h.2.1.2.1) ?_
  refine g_put 4 rfl (by decide) inX2 tyX2 tyX2_ok nmX2 2 (by decide) fl_X4_72 rfl dX4_noteIce_13 m0 rfl rfl ?_
  refine g_aload_n dX4_noteIce_16 rfl ?_
  refine g_dup dX4_noteIce_17 rfl ?_
  refine g_get 6 rfl (by decide) inX4 6 (by decide) fl_X4_40 dX4_noteIce_18 h.1.1 ((congrFun ((hu_ne _ _ _ hne).trans (hu_ne _ _ _ hne)) _).trans h.2.1.2.2.2.2.2.2.1) ?_
  refine g_iconst (v := nI 1) dX4_noteIce_21 (by decide) ?_
  refine g_iadd dX4_noteIce_22 ?_
  refine g_put 6 rfl (by decide) inX4 tyX4 tyX4_ok nmX4 6 (by decide) fl_X4_40 rfl dX4_noteIce_23 h.1.1 rfl rfl ?_
  exact g_vret rfl dX4_noteIce_26 (by decide) (hP _ (((Fr.rf.put (by omega) (by omega)).put (by omega) (by omega)).put (by omega) (by omega)) (RoadAt.fld (Or.inr (Or.inl ⟨rfl, rfl⟩)) (RoadAt.mile h hj (fun a ha => (hu_ne _ _ _ ha).trans (hu_ne _ _ _ ha)) (noteM m0 m1 m2 m3 m4 m5 m6) (fun k hk => noteO hk))))
theorem c_carry {j q : Nat} {t : Int32 × Int32 × Int32} (h : RoadAt sh V r f) (hj : j < 12) (hq : TrAt sh V q t) (hP : ∀ V', (∀ a, a ≠ r + 5 + j → V' a = V a) → RoadAt sh V' r (carF f j (stn t)) → P (.inl none) sh sz V') : MC E YX2_carry [.ref (r + 5 + j), .ref q] sh sz V P := by
  obtain ⟨m0, m1, m2, m3, m4, m5, m6⟩ := h.mi hj
  have hq2 : ∀ k v, TrAt sh (hu V (r + 5 + j) k v) q t := fun k v => hq.keep (h.tr (Fr.rf.put (by omega) (by omega)))
  refine MC.of RX2 "carry" rfl (by decide +kernel) rfl 0 [_, _] rfl (Nat.le_of_ble_eq_true rfl) ?_
  show G E MX2_carry _ _ _ _ _ _ _ _ _
  refine g_aload_n dX2_carry_0 rfl ?_
  refine g_dup dX2_carry_1 rfl ?_
  refine g_get 4 rfl (by decide) inX2 5 (by decide) fl_X2_29 dX2_carry_2 m0 m6 ?_
  refine g_iconst (v := nI 1) dX2_carry_5 (by decide) ?_
  refine g_iadd dX2_carry_6 ?_
  refine g_put 4 rfl (by decide) inX2 tyX2 tyX2_ok nmX2 5 (by decide) fl_X2_29 rfl dX2_carry_7 m0 rfl rfl ?_
  refine g_aload_n dX2_carry_10 rfl ?_
  refine g_dup dX2_carry_11 rfl ?_
  refine g_get 4 rfl (by decide) inX2 4 (by decide) fl_X2_26 dX2_carry_12 m0 ((hu_at_ne _ _ _ (by decide)).trans m5) ?_
  refine g_aload_n dX2_carry_15 rfl ?_
  refine g_callVp (Y := YX5_strainOnIce) sv_X2_32 rfl yn_X5_strainOnIce 7 (by decide) rfl rfl dX2_carry_16 (c_strainOnIce (hq2 _ _) pR_ok) hq.1 rfl rfl rfl (Nat.le_of_ble_eq_true rfl) ⟨rfl, rfl⟩ ?_
  refine g_iadd dX2_carry_19 ?_
  refine g_put 4 rfl (by decide) inX2 tyX2 tyX2_ok nmX2 4 (by decide) fl_X2_26 rfl dX2_carry_20 m0 rfl rfl ?_
  refine g_aload_n dX2_carry_23 rfl ?_
  refine g_get 4 rfl (by decide) inX2 4 (by decide) fl_X2_26 dX2_carry_24 m0 (hu_at _ _ _ _) ?_
  refine g_bipush (v := nI 20) dX2_carry_27 (by decide) ?_
  refine g_icmp_lt (tgt := 57) dX2_carry_29 (by decide) (fun b1 => ?_) (fun b1 => ?_)
  · exact g_vret rfl dX2_carry_57 (by decide) (hP _ (fun a ha => (hu_ne _ _ _ ha).trans (hu_ne _ _ _ ha)) (RoadAt.mile h hj (fun a ha => (hu_ne _ _ _ ha).trans (hu_ne _ _ _ ha)) (carM1 b1 m0 m1 m2 m3 m4 m5 m6) (fun k hk => carF_out hk)))
  · refine g_aload_n dX2_carry_32 rfl ?_
    refine g_dup dX2_carry_33 rfl ?_
    refine g_get 4 rfl (by decide) inX2 4 (by decide) fl_X2_26 dX2_carry_34 m0 (hu_at _ _ _ _) ?_
    refine g_bipush (v := nI 20) dX2_carry_37 (by decide) ?_
    refine g_isub dX2_carry_39 ?_
    refine g_put 4 rfl (by decide) inX2 tyX2 tyX2_ok nmX2 4 (by decide) fl_X2_26 rfl dX2_carry_40 m0 rfl rfl ?_
    refine g_aload_n dX2_carry_43 rfl ?_
    refine g_aload_n dX2_carry_44 rfl ?_
    refine g_get 4 rfl (by decide) inX2 3 (by decide) fl_X2_23 dX2_carry_45 m0 ((hu_at_ne _ _ _ (by decide)).trans ((hu_at_ne _ _ _ (by decide)).trans ((hu_at_ne _ _ _ (by decide)).trans m4))) ?_
    refine g_iconst (v := nI 1) dX2_carry_48 (by decide) ?_
    refine g_iadd dX2_carry_49 ?_
    refine g_iconst (v := nI 5) dX2_carry_50 (by decide) ?_
    refine g_mmin ml_X2_38 wm_mmin_s wm_ini wm_mmin_c dX2_carry_51 (Nat.le_of_ble_eq_true rfl) (Nat.le_of_ble_eq_true rfl) ⟨Nat.le_of_ble_eq_true rfl, Nat.le_of_ble_eq_true rfl⟩ ?_
    refine g_put 4 rfl (by decide) inX2 tyX2 tyX2_ok nmX2 3 (by decide) fl_X2_23 rfl dX2_carry_54 m0 rfl rfl ?_
    exact g_vret rfl dX2_carry_57 (by decide) (hP _ (fun a ha => (hu_ne _ _ _ ha).trans ((hu_ne _ _ _ ha).trans ((hu_ne _ _ _ ha).trans (hu_ne _ _ _ ha)))) (RoadAt.mile h hj (fun a ha => (hu_ne _ _ _ ha).trans ((hu_ne _ _ _ ha).trans ((hu_ne _ _ _ ha).trans (hu_ne _ _ _ ha)))) (carM2 b1 m0 m1 m2 m3 m4 m5 m6) (fun k hk => carF_out hk)))
theorem c_liveThroughDay {j : Nat} (h : RoadAt sh V r f) (hI : InvB f) (hj : j < 12) (hP : ∀ V', (∀ a, a ≠ r + 5 + j → V' a = V a) → RoadAt sh V' r (dayM f j) → P (.inl none) sh sz V') : MC E YX2_liveThroughDay [.ref (r + 5 + j), .int (f 5)] sh sz V P := by
  obtain ⟨m0, m1, m2, m3, m4, m5, m6⟩ := h.mi hj
  refine MC.of RX2 "liveThroughDay" rfl (by decide +kernel) rfl 0 [_, _] rfl (Nat.le_of_ble_eq_true rfl) ?_
  show G E MX2_liveThroughDay _ _ _ _ _ _ _ _ _
  refine g_aload_n dX2_liveThroughDay_0 rfl ?_
  refine g_aload_n dX2_liveThroughDay_1 rfl ?_
  refine g_get 4 rfl (by decide) inX2 0 (by decide) fl_X2_10 dX2_liveThroughDay_2 m0 m1 ?_
  refine g_iload_n dX2_liveThroughDay_5 rfl ?_
  refine g_callSNp (Y := YX6_nextIce) wc_X6_nextIce mn_X2_44 wt_X6_nextIce ini_X6 yn_X6_nextIce dX2_liveThroughDay_6 (c_nextIce (hI.2.2.2.1 j hj).1 hI.2.1.1 hI.2.1.2 pR_ok) rfl rfl rfl (Nat.le_of_ble_eq_true rfl) ⟨rfl, rfl⟩ ?_
  refine g_put 4 rfl (by decide) inX2 tyX2 tyX2_ok nmX2 0 (by decide) fl_X2_10 rfl dX2_liveThroughDay_9 m0 rfl rfl ?_
  refine g_iload_n dX2_liveThroughDay_12 rfl ?_
  refine g_bipush (v := (-20)) dX2_liveThroughDay_13 (by decide) ?_
  refine g_icmp_ge (tgt := 32) dX2_liveThroughDay_15 (by decide) (fun b1 => ?_) (fun b1 => ?_)
  · exact g_vret rfl dX2_liveThroughDay_32 (by decide) (hP _ (fun a ha => hu_ne _ _ _ ha) (RoadAt.mile h hj (fun a ha => hu_ne _ _ _ ha) (dayM1 b1 m0 m1 m2 m3 m4 m5 m6) (fun k hk => dayM_out hk)))
  · refine g_aload_n dX2_liveThroughDay_18 rfl ?_
    refine g_aload_n dX2_liveThroughDay_19 rfl ?_
    refine g_get 4 rfl (by decide) inX2 3 (by decide) fl_X2_23 dX2_liveThroughDay_20 m0 ((hu_at_ne _ _ _ (by decide)).trans m4) ?_
    refine g_iconst (v := nI 1) dX2_liveThroughDay_23 (by decide) ?_
    refine g_isub dX2_liveThroughDay_24 ?_
    refine g_iconst (v := nI 0) dX2_liveThroughDay_25 (by decide) ?_
    refine g_mmax ml_X2_48 wm_mmax_s wm_ini wm_mmax_c dX2_liveThroughDay_26 (Nat.le_of_ble_eq_true rfl) (Nat.le_of_ble_eq_true rfl) ⟨Nat.le_of_ble_eq_true rfl, Nat.le_of_ble_eq_true rfl⟩ ?_
    refine g_put 4 rfl (by decide) inX2 tyX2 tyX2_ok nmX2 3 (by decide) fl_X2_23 rfl dX2_liveThroughDay_29 m0 rfl rfl ?_
    exact g_vret rfl dX2_liveThroughDay_32 (by decide) (hP _ (fun a ha => (hu_ne _ _ _ ha).trans (hu_ne _ _ _ ha)) (RoadAt.mile h hj (fun a ha => (hu_ne _ _ _ ha).trans (hu_ne _ _ _ ha)) (dayM2 b1 m0 m1 m2 m3 m4 m5 m6) (fun k hk => dayM_out hk)))
theorem c_letDaysGoBy {n : Nat} (h : RoadAt sh V r f) (hI : InvB f) (hn : n < 2 ^ 31) (hP : ∀ V', Fr V V' r → RoadAt sh V' r (passF f n) → P (.inl none) sh sz V') : MC E YX4_letDaysGoBy [.ref r, .int (nI n)] sh sz V P := by
  refine MC.of RX4 "letDaysGoBy" rfl (by decide +kernel) rfl 2 [_, _, none, none] rfl (Nat.le_of_ble_eq_true rfl) ?_
  show G E MX4_letDaysGoBy _ _ _ _ _ _ _ _ _
  refine g_iconst (v := nI 0) dX4_letDaysGoBy_0 (by decide) ?_
  refine g_istore_n dX4_letDaysGoBy_1 (by decide) rfl ?_
  show G _ _ _ _ _ _ _ _ _ [_, _, _, _] _
  suffices K : ∀ (d i : Nat), i + d = n → ∀ V', Fr V V' r → RoadAt sh V' r (passF f i) → ∀ z, G E MX4_letDaysGoBy P sh sz V' 0 0 2 [some (.ref r), some (.int (nI n)), some (.int (nI i)), z] [] from K n 0 (by omega) V Fr.rf h _
  intro d
  induction d with
  | zero =>
    intro i hi V' hF hR z
    have e : i = n := by omega
    subst e
    refine g_iload_n dX4_letDaysGoBy_2 rfl ?_
    refine g_iload_n dX4_letDaysGoBy_3 rfl ?_
    refine g_icmp_ge (tgt := 52) dX4_letDaysGoBy_4 (by decide) (fun _ => ?_) (fun hq => absurd (Int32.le_refl _) hq)
    exact g_vret rfl dX4_letDaysGoBy_52 (by decide) (hP _ hF hR)
  | succ d ih =>
    intro i hi V' hF hR z
    refine g_iload_n dX4_letDaysGoBy_2 rfl ?_
    refine g_iload_n dX4_letDaysGoBy_3 rfl ?_
    refine g_icmp_ge (tgt := 52) dX4_letDaysGoBy_4 (by decide) (fun hq => absurd hq (nI_ge (by omega) hn)) (fun _ => ?_)
    refine g_iconst (v := nI 0) dX4_letDaysGoBy_7 (by decide) ?_
    refine g_istore_n dX4_letDaysGoBy_8 (by decide) rfl ?_
    show G _ _ _ _ _ _ _ _ _ [_, _, _, _] _
    have hI2 : InvB (passF f i) := passF_inv hI
    suffices K2 : ∀ (e j : Nat), j + e = 12 → ∀ V', Fr V V' r → RoadAt sh V' r (dayN (passF f i) j) → G E MX4_letDaysGoBy P sh sz V' 0 0 9 [some (.ref r), some (.int (nI n)), some (.int (nI i)), some (.int (nI j))] [] from K2 12 0 rfl V' hF hR
    intro e
    induction e with
    | zero =>
      intro j hj V' hF hR
      have e : j = 12 := by omega
      subst e
      refine g_iload_n dX4_letDaysGoBy_9 rfl ?_
      refine g_bipush (v := nI 12) dX4_letDaysGoBy_10 (by decide) ?_
      refine g_icmp_ge (tgt := 36) dX4_letDaysGoBy_12 (by decide) (fun _ => ?_) (fun hq => absurd (Int32.le_refl _) hq)
      refine g_aload_n dX4_letDaysGoBy_36 rfl ?_
      refine g_dup dX4_letDaysGoBy_37 rfl ?_
      refine g_get 6 rfl (by decide) inX4 1 (by decide) fl_X4_15 dX4_letDaysGoBy_38 hR.1.1 hR.2.1.2.1 ?_
      refine g_iconst (v := nI 1) dX4_letDaysGoBy_41 (by decide) ?_
      refine g_iadd dX4_letDaysGoBy_42 ?_
      refine g_put 6 rfl (by decide) inX4 tyX4 tyX4_ok nmX4 1 (by decide) fl_X4_15 rfl dX4_letDaysGoBy_43 hR.1.1 rfl rfl ?_
      refine g_iinc dX4_letDaysGoBy_46 rfl (by first | exact nI_inc _ | rfl) (by decide) rfl ?_
      show G _ _ _ _ _ _ _ _ _ [_, _, _, _] _
      refine g_jump (tgt := 2) dX4_letDaysGoBy_49 (by decide) ?_
      exact ih (i + 1) (by omega) _ (hF.put (by omega) (by omega)) (RoadAt.fld (Or.inl ⟨rfl, rfl⟩) hR) _
    | succ e ih2 =>
      intro j hj V' hF hR
      have hI3 := dayN_inv hI2 (j := j) (by omega)
      refine g_iload_n dX4_letDaysGoBy_9 rfl ?_
      refine g_bipush (v := nI 12) dX4_letDaysGoBy_10 (by decide) ?_
      refine g_icmp_ge (tgt := 36) dX4_letDaysGoBy_12 (by decide) (fun hq => absurd hq (nI_ge (by omega) (by decide))) (fun _ => ?_)
      refine g_aload_n dX4_letDaysGoBy_15 rfl ?_
      refine g_get 6 rfl (by decide) inX4 2 (by decide) fl_X4_21 dX4_letDaysGoBy_16 hR.1.1 hR.2.1.2.2.1 ?_
      refine g_iload_n dX4_letDaysGoBy_19 rfl ?_
      refine g_aaload _ dX4_letDaysGoBy_20 hR.1.2.2.1 (by decide) (by decide) (vp_in_nI (by omega) (by decide)) (hR.mir (by omega)) ?_
      refine g_aload_n dX4_letDaysGoBy_21 rfl ?_
      refine g_get 6 rfl (by decide) inX4 0 (by decide) fl_X4_9 dX4_letDaysGoBy_22 hR.1.1 hR.2.1.1 ?_
      refine g_iconst (v := nI 0) dX4_letDaysGoBy_25 (by decide) ?_
      refine g_iaload dX4_letDaysGoBy_26 hR.1.2.1 (vp_in_nI (by decide) (by decide)) (hR.set (k := 0) (by decide)) ?_
      refine g_callVv (Y := YX2_liveThroughDay) (Q := (fun V2 => (∀ a, a ≠ r + 5 + j → V2 a = V' a) ∧ RoadAt sh V2 r (dayM (dayN (passF f i) j) j))) sv_X4_160 rfl yn_X2_liveThroughDay 4 (by decide) rfl rfl dX4_letDaysGoBy_27 (c_liveThroughDay hR hI3 (j := j) (by omega) (fun V2 q1 q2 => ⟨rfl, rfl, rfl, q1, q2⟩)) (hR.mi (j := j) (by omega)).1 rfl rfl rfl (Nat.le_of_ble_eq_true rfl) ⟨rfl, rfl⟩ (fun V2 q => ?_)
      refine g_iinc dX4_letDaysGoBy_30 rfl (by first | exact nI_inc _ | rfl) (by decide) rfl ?_
      show G _ _ _ _ _ _ _ _ _ [_, _, _, _] _
      refine g_jump (tgt := 9) dX4_letDaysGoBy_33 (by decide) ?_
      exact ih2 (j + 1) (by omega) V2 (hF.trans (fun a ha => q.1 a (by omega))) q.2
end ROAD6

