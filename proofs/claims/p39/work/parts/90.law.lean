/-! the law -/
section LAW
variable {E : gE} {x : Nat} {tb : List ExceptionTableEntry} {nm : String}
abbrev ML_law (tb : List ExceptionTableEntry) (nm : String) : gM := (cL_law, 2, RL, some .boolean, tb, nm, room_1)
def PLaw : gP := fun o _ _ _ => o = .inl (some (.int (nI 1)))
theorem law_all {V : Vl} (hlen : E.2.2.2.2.2.2.1 ≤ 260) : G E (ML_law tb nm) PLaw (fun _ => (0, 0)) x V 0 0 0 [some (.ref E.2.2.2.2.2.1), none] [] := by
  refine g_aload_n dL_law_0 rfl ?_
  refine g_callS (M := (ML_law tb nm)) (pc := 1) (Y := YL_drawn) ss_L_159 yn_L_drawn dL_law_1 (l_drawn hlen) rfl rfl (gRoom_of rfl) (Nat.le_of_ble_eq_true rfl) (fun _ _ _ _ h => h.1) (fun v sh sz V h => ?_) (fun _ _ _ _ h => by obtain ⟨-, S, -, -, h⟩ := h; cases h)
  obtain ⟨hz, S, hA, ⟨hl, hD, hW⟩, hv⟩ := h
  cases hv
  have hb : x ≤ sz ∧ 0 + YL_drawn.2.2.2.2.cells ≤ 1000 ∧ 0 + YL_drawn.2.2.2.2.slots ≤ 6 * 1000 := ⟨hz, Nat.le_of_ble_eq_true rfl, Nat.le_of_ble_eq_true rfl⟩
  refine g_astore_n dL_law_4 (Nat.le_of_ble_eq_true rfl) rfl ?_
  show G _ _ _ _ _ _ _ _ _ [_, _] _
  refine g_aload_n dL_law_5 rfl ?_
  refine g_ifnull dL_law_6 ?_
  refine g_aload_n dL_law_9 rfl ?_
  refine g_lcS 320 (M := (ML_law tb nm)) (pc := 10) (Y := YL_miles) ss_L_163 yn_L_miles dL_law_10 hb (lRm_of rfl (rm_c (by show _ ≤ 675114; omega) (Nat.le_of_ble_eq_true rfl))) (l_miles (N := 1000) hA hD (by decide)) rfl rfl (Nat.le_of_ble_eq_true rfl) ?_
  intro sh sz V cu su hA hb
  refine g_if_eq (tgt := 50) dL_law_13 (by decide) (fun hq => absurd hq (by decide)) (fun _ => ?_)
  refine g_aload_n dL_law_16 rfl ?_
  refine g_lcS 320 (M := (ML_law tb nm)) (pc := 17) (Y := YL_sums) ss_L_167 yn_L_sums dL_law_17 hb (lRm_of rfl (rm_c (by show _ ≤ 675114; omega) (Nat.le_of_ble_eq_true rfl))) (l_sums hA hW) rfl rfl (Nat.le_of_ble_eq_true rfl) ?_
  intro sh sz V cu su hA hb
  refine g_if_eq (tgt := 50) dL_law_20 (by decide) (fun hq => absurd hq (by decide)) (fun _ => ?_)
  refine g_aload_n dL_law_23 rfl ?_
  refine g_lcX 2400 (M := (ML_law tb nm)) (pc := 24) (Y := YL_reasons) ss_L_170 yn_L_reasons dL_law_24 hb (lRm_of rfl (rm_c (by show _ ≤ 675114; omega) (Nat.le_of_ble_eq_true rfl))) (l_reasons hA hl hW) rfl rfl (Nat.le_of_ble_eq_true rfl) (fun S v hQ => ?_)
  obtain ⟨hO, rfl⟩ := hQ
  intro sh sz V cu su hA hb
  rw [← hO.1] at hD hW
  refine g_if_eq (tgt := 50) dL_law_27 (by decide) (fun hq => absurd hq (by decide)) (fun _ => ?_)
  refine g_aload_n dL_law_30 rfl ?_
  refine g_aload_n dL_law_31 rfl ?_
  refine g_lcX 4800 (M := (ML_law tb nm)) (pc := 32) (Y := YL_ahead) ss_L_173 yn_L_ahead dL_law_32 hb (lRm_of rfl (rm_c (by show _ ≤ 675114; omega) (Nat.le_of_ble_eq_true rfl))) (l_ahead (N := 1000) hA hlen hO.2 hD (by decide)) rfl rfl (Nat.le_of_ble_eq_true rfl) (fun S v hQ => ?_)
  obtain ⟨hO2, rfl⟩ := hQ
  intro sh sz V cu su hA hb
  rw [← hO2.1] at hD hW
  refine g_if_eq (tgt := 50) dL_law_35 (by decide) (fun hq => absurd hq (by decide)) (fun _ => ?_)
  refine g_aload_n dL_law_38 rfl ?_
  refine g_aload_n dL_law_39 rfl ?_
  refine g_lcX 9000 (M := (ML_law tb nm)) (pc := 40) (Y := YL_undone) ss_L_177 yn_L_undone dL_law_40 hb (lRm_of rfl (rm_c (by show _ ≤ 675114; omega) (Nat.le_of_ble_eq_true rfl))) (l_undone (N := 1000) hA hlen hO2.2 hD (by decide)) rfl rfl (Nat.le_of_ble_eq_true rfl) (fun S v hQ => ?_)
  subst hQ
  intro sh sz V cu su hA hb
  refine g_if_eq (tgt := 50) dL_law_43 (by decide) (fun hq => absurd hq (by decide)) (fun _ => ?_)
  refine g_iconst (v := nI 1) dL_law_46 (by decide) ?_
  refine g_jump (tgt := 51) dL_law_47 (by decide) ?_
  exact g_iret rfl nz1 dL_law_51 ⟨by show cu ≤ 675114; omega, by show su ≤ 7069003; omega⟩ rfl
end LAW

