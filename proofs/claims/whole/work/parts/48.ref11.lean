/-! the reference's calls: changes -/
section REF11
def RI (sh : Sh) (m sz : Nat) (V : Vl) (q : Sp) (P : gP) : Prop := ∀ V' (w : Int32), Mf V V' m → (q.1 = 0 → q.2.1 = .int w) → MS sh V' m q.2.2 (nI q.1) → P (.inl (some (.int w))) sh sz V'
def RF (sh : Sh) (m sz : Nat) (V : Vl) (q : Sp) (P : gP) : Prop := ∀ V' (w : UInt32), Mf V V' m → (q.1 = 0 → q.2.1 = .float w) → MS sh V' m q.2.2 (nI q.1) → P (.inl (some (.float w))) sh sz V'
/-- a change's answer and what it leaves -/
def spq (S : St) (q : Dq) : Sp := if q.1 = 0 then (0, .int q.2.1, push S q.2.2.1) else (q.1, .int (nI 0), dqS S q.2.2.2)
def dqOk (q : Dq) : Prop := q.1 < 4 ∧ (q.1 = 0 → q.2.2.2 = none)
variable {E : gE} {M : gM} {P : gP} {sh : Sh} {sz : Nat} {V V' V1 V2 : Vl} {cu su pc : Nat} {L : List (Option Value)} {rest : List Value} {m : Nat} {f g b : Fl} {th r : Int32} {S : St} {q : Dq}
theorem Mf.rf : Mf V V m := fun _ _ => rfl
theorem Mf.trans (h : Mf V V1 m) (h2 : Mf V1 V2 m) : Mf V V2 m := fun a ha => (h2 a ha).trans (h a ha)
theorem dqS_1 {o : Option (Int32 × Int32)} : (dqS S o).1 = S.1 := by cases o <;> rfl
theorem RI.no (hP : RI sh m sz V (spq S q) P) (h : 0 < nI q.1) (hw : Mf V V' m) (hM : MB sh V' m S.1 (nI q.1) r (dqS S q.2.2.2)) : P (.inl (some (.int (nI 0)))) sh sz V' := by
  have hn : ¬ q.1 = 0 := fun z => by
    rw [z] at h
    exact absurd h (by decide)
  have e : spq S q = (q.1, .int (nI 0), dqS S q.2.2.2) := if_neg hn
  rw [e] at hP
  refine hP V' (nI 0) hw (fun z => absurd z hn) ⟨r, ?_⟩
  show MB sh V' m (dqS S q.2.2.2).1 _ _ _
  rw [dqS_1]
  exact hM
theorem RI.yes (hP : RI sh m sz V (spq S q) P) (hq : dqOk q) (h : ¬ 0 < nI q.1) (hw : Mf V V' m) (hM : MB sh V' m q.2.2.1 (nI q.1) r (pst (dqS S q.2.2.2) S.1)) : P (.inl (some (.int q.2.1))) sh sz V' := by
  have hn : q.1 = 0 := Classical.byContradiction fun z => h (nI_lt (a := 0) (by omega) (by have := hq.1; omega))
  have e : spq S q = (0, .int q.2.1, push S q.2.2.1) := if_pos hn
  rw [e] at hP
  rw [hq.2 hn, hn] at hM
  exact hP V' q.2.1 hw (fun _ => rfl) ⟨r, hM⟩
/-- only what a call has thrown changes -/
theorem RI.t7 {k : Nat} {v : Value} {w : Int32} (hP : RI sh m sz V (k, v, S) P) (hM : MB sh V m S.1 th r S) (hv : k = 0 → v = .int w) : P (.inl (some (.int w))) sh sz (hu V m 7 (.int (nI k))) := hP _ w (fun a ha => hu_ne _ _ _ (by omega)) hv ⟨r, hM.thr⟩
theorem RF.t7 {k : Nat} {v : Value} {w : UInt32} (hP : RF sh m sz V (k, v, S) P) (hM : MB sh V m S.1 th r S) (hv : k = 0 → v = .float w) : P (.inl (some (.float w))) sh sz (hu V m 7 (.int (nI k))) := hP _ w (fun a ha => hu_ne _ _ _ (by omega)) hv ⟨r, hM.thr⟩
theorem Mf.o1 (h : ∀ a, a ≠ m → a ≠ m + 2 → V1 a = V a) : Mf V V1 m := fun a ha => h a (by omega) (by omega)
theorem Mf.o2 (h : ∀ a, a ≠ m → a ≠ m + 1 → V1 a = V a) : Mf V V1 m := fun a ha => h a (by omega) (by omega)
theorem q_set (S : St) (w v : Int32) : sp_set S w v = spq S (do_set S.1 w v) ∧ dqOk (do_set S.1 w v) := by
  unfold sp_set do_set
  repeat' split
  all_goals exact ⟨rfl, Nat.le_of_ble_eq_true rfl, fun h => by first | rfl | cases h⟩
set_option maxRecDepth 100000 in
theorem r_set {w v : Int32} (h : MS sh V m S th) (hP : RI sh m sz V (sp_set S w v) P) : MC E YX7_set_ [.ref m, .int w, .int v] sh sz V P := by
  obtain ⟨r, hB⟩ := h
  have h0 := hB.1.1
  obtain ⟨e, hq⟩ := q_set S w v
  rw [e] at hP
  generalize hD : do_set S.1 w v = D at hP hq
  refine MC.of RX7 "set" rfl (by decide +kernel) rfl 0 [_, _, _] rfl (Nat.le_of_ble_eq_true rfl) ?_
  show G E MX7_set_ _ _ _ _ _ _ _ _ _
  refine g_aload_n dX7_set__0 rfl ?_
  refine g_callVv (Y := YX7_keep) (Q := (fun V1 => (∀ a, a ≠ m → a ≠ m + 2 → V1 a = V a) ∧ (∀ j, j ≠ 7 → V1 m j = V m j) ∧ MB sh V1 m S.1 0 r S ∧ Bk V1 m S.1)) sv_X7_92 rfl yn_X7_keep 9 (by decide) rfl rfl dX7_set__1 (k_keep hB (fun V' a b c d => ⟨rfl, rfl, rfl, a, b, c, d⟩)) h0 rfl rfl rfl (Nat.le_of_ble_eq_true rfl) ⟨rfl, rfl⟩ (fun V1 q => ?_)
  obtain ⟨w1, w2, w3, w4⟩ := q
  refine g_aload_n dX7_set__4 rfl ?_
  refine g_aload_n dX7_set__5 rfl ?_
  refine g_iload_n dX7_set__6 rfl ?_
  refine g_iload_n dX7_set__7 rfl ?_
  refine g_callVw (Y := YX7_doSet) sv_X7_95 rfl yn_X7_doSet 9 (by decide) rfl rfl dX7_set__8 (k_doSet (P := pW (fun v V2 => v = .int D.2.1 ∧ (∀ a, a ≠ m → a ≠ m + 1 → V2 a = V1 a) ∧ MB sh V2 m D.2.2.1 (nI D.1) (dqR r D.2.2.2) (dqS S D.2.2.2)) sh sz) w3 (fun V2 a b c => ⟨_, rfl, rfl, rfl, congrArg (fun z : Dq => Value.int z.2.1) hD, a, hD ▸ c⟩)) h0 rfl rfl rfl (Nat.le_of_ble_eq_true rfl) ⟨rfl, rfl⟩ (fun v V2 q => ?_)
  obtain ⟨rfl, u1, u3⟩ := q
  have e2 : V2 (m + 2) = V1 (m + 2) := u1 _ (by omega) (by omega)
  have hb : Bk V2 m S.1 := fun k hk => by rw [e2]; exact w4 k hk
  have hw : Mf V V2 m := (Mf.o1 w1).trans (Mf.o2 u1)
  refine g_callVw (Y := YX7_ends) sv_X7_98 rfl yn_X7_ends 9 (by decide) rfl rfl dX7_set__11 (k_ends (P := pW (fun v V3 => P (.inl (some v)) sh sz V3 ∧ ∃ x, v = .int x) sh sz) u3 hb (fun hq0 V3 a b => ⟨_, rfl, rfl, rfl, hP.no hq0 (hw.trans a) b, _, rfl⟩) (fun hq0 V3 a b => ⟨_, rfl, rfl, rfl, hP.yes hq hq0 (hw.trans a) b, _, rfl⟩)) h0 rfl rfl rfl (Nat.le_of_ble_eq_true rfl) ⟨rfl, rfl⟩ (fun v V3 q => ?_)
  obtain ⟨q, x, rfl⟩ := q
  exact g_iret rfl (nr_int _) dX7_set__14 (by decide) q
theorem q_drill (S : St) (a : Int32) : sp_drill S a = spq S (do_drill S.1 a) ∧ dqOk (do_drill S.1 a) := by
  unfold sp_drill do_drill
  repeat' split
  all_goals exact ⟨rfl, Nat.le_of_ble_eq_true rfl, fun h => by first | rfl | cases h⟩
set_option maxRecDepth 100000 in
theorem r_drill {a : Int32} (h : MS sh V m S th) (hP : RI sh m sz V (sp_drill S a) P) : MC E YX7_drill [.ref m, .int a] sh sz V P := by
  obtain ⟨r, hB⟩ := h
  have h0 := hB.1.1
  obtain ⟨e, hq⟩ := q_drill S a
  rw [e] at hP
  generalize hD : do_drill S.1 a = D at hP hq
  refine MC.of RX7 "drill" rfl (by decide +kernel) rfl 0 [_, _] rfl (Nat.le_of_ble_eq_true rfl) ?_
  show G E MX7_drill _ _ _ _ _ _ _ _ _
  refine g_aload_n dX7_drill_0 rfl ?_
  refine g_callVv (Y := YX7_keep) (Q := (fun V1 => (∀ a, a ≠ m → a ≠ m + 2 → V1 a = V a) ∧ (∀ j, j ≠ 7 → V1 m j = V m j) ∧ MB sh V1 m S.1 0 r S ∧ Bk V1 m S.1)) sv_X7_92 rfl yn_X7_keep 9 (by decide) rfl rfl dX7_drill_1 (k_keep hB (fun V' a b c d => ⟨rfl, rfl, rfl, a, b, c, d⟩)) h0 rfl rfl rfl (Nat.le_of_ble_eq_true rfl) ⟨rfl, rfl⟩ (fun V1 q => ?_)
  obtain ⟨w1, w2, w3, w4⟩ := q
  refine g_aload_n dX7_drill_4 rfl ?_
  refine g_aload_n dX7_drill_5 rfl ?_
  refine g_iload_n dX7_drill_6 rfl ?_
  refine g_callVw (Y := YX7_doDrill) sv_X7_105 rfl yn_X7_doDrill 9 (by decide) rfl rfl dX7_drill_7 (k_doDrill (P := pW (fun v V2 => v = .int D.2.1 ∧ (∀ a, a ≠ m → a ≠ m + 1 → V2 a = V1 a) ∧ MB sh V2 m D.2.2.1 (nI D.1) (dqR r D.2.2.2) (dqS S D.2.2.2)) sh sz) w3 (fun V2 a b c => ⟨_, rfl, rfl, rfl, congrArg (fun z : Dq => Value.int z.2.1) hD, a, hD ▸ c⟩)) h0 rfl rfl rfl (Nat.le_of_ble_eq_true rfl) ⟨rfl, rfl⟩ (fun v V2 q => ?_)
  obtain ⟨rfl, u1, u3⟩ := q
  have e2 : V2 (m + 2) = V1 (m + 2) := u1 _ (by omega) (by omega)
  have hb : Bk V2 m S.1 := fun k hk => by rw [e2]; exact w4 k hk
  have hw : Mf V V2 m := (Mf.o1 w1).trans (Mf.o2 u1)
  refine g_callVw (Y := YX7_ends) sv_X7_98 rfl yn_X7_ends 9 (by decide) rfl rfl dX7_drill_10 (k_ends (P := pW (fun v V3 => P (.inl (some v)) sh sz V3 ∧ ∃ x, v = .int x) sh sz) u3 hb (fun hq0 V3 a b => ⟨_, rfl, rfl, rfl, hP.no hq0 (hw.trans a) b, _, rfl⟩) (fun hq0 V3 a b => ⟨_, rfl, rfl, rfl, hP.yes hq hq0 (hw.trans a) b, _, rfl⟩)) h0 rfl rfl rfl (Nat.le_of_ble_eq_true rfl) ⟨rfl, rfl⟩ (fun v V3 q => ?_)
  obtain ⟨q, x, rfl⟩ := q
  exact g_iret rfl (nr_int _) dX7_drill_13 (by decide) q
theorem q_join (S : St) (c y z : Int32) : sp_join S c y z = spq S (do_join S.1 c y z) ∧ dqOk (do_join S.1 c y z) := by
  unfold sp_join do_join
  repeat' split
  all_goals exact ⟨rfl, Nat.le_of_ble_eq_true rfl, fun h => by first | rfl | cases h⟩
set_option maxRecDepth 100000 in
theorem r_join {c y z : Int32} (h : MS sh V m S th) (hI : InvB S.1) (hP : RI sh m sz V (sp_join S c y z) P) : MC E YX7_join [.ref m, .int c, .int y, .int z] sh sz V P := by
  obtain ⟨r, hB⟩ := h
  have h0 := hB.1.1
  obtain ⟨e, hq⟩ := q_join S c y z
  rw [e] at hP
  generalize hD : do_join S.1 c y z = D at hP hq
  refine MC.of RX7 "join" rfl (by decide +kernel) rfl 0 [_, _, _, _] rfl (Nat.le_of_ble_eq_true rfl) ?_
  show G E MX7_join _ _ _ _ _ _ _ _ _
  refine g_aload_n dX7_join_0 rfl ?_
  refine g_callVv (Y := YX7_keep) (Q := (fun V1 => (∀ a, a ≠ m → a ≠ m + 2 → V1 a = V a) ∧ (∀ j, j ≠ 7 → V1 m j = V m j) ∧ MB sh V1 m S.1 0 r S ∧ Bk V1 m S.1)) sv_X7_92 rfl yn_X7_keep 9 (by decide) rfl rfl dX7_join_1 (k_keep hB (fun V' a b c d => ⟨rfl, rfl, rfl, a, b, c, d⟩)) h0 rfl rfl rfl (Nat.le_of_ble_eq_true rfl) ⟨rfl, rfl⟩ (fun V1 q => ?_)
  obtain ⟨w1, w2, w3, w4⟩ := q
  refine g_aload_n dX7_join_4 rfl ?_
  refine g_aload_n dX7_join_5 rfl ?_
  refine g_iload_n dX7_join_6 rfl ?_
  refine g_iload_n dX7_join_7 rfl ?_
  refine g_iload_n dX7_join_8 rfl ?_
  refine g_callVw (Y := YX7_doJoin) sv_X7_137 rfl yn_X7_doJoin 9 (by decide) rfl rfl dX7_join_9 (k_doJoin (P := pW (fun v V2 => v = .int D.2.1 ∧ (∀ a, a ≠ m → a ≠ m + 1 → V2 a = V1 a) ∧ MB sh V2 m D.2.2.1 (nI D.1) (dqR r D.2.2.2) (dqS S D.2.2.2)) sh sz) w3 hI (fun V2 a b c => ⟨_, rfl, rfl, rfl, congrArg (fun z : Dq => Value.int z.2.1) hD, a, hD ▸ c⟩)) h0 rfl rfl rfl (Nat.le_of_ble_eq_true rfl) ⟨rfl, rfl⟩ (fun v V2 q => ?_)
  obtain ⟨rfl, u1, u3⟩ := q
  have e2 : V2 (m + 2) = V1 (m + 2) := u1 _ (by omega) (by omega)
  have hb : Bk V2 m S.1 := fun k hk => by rw [e2]; exact w4 k hk
  have hw : Mf V V2 m := (Mf.o1 w1).trans (Mf.o2 u1)
  refine g_callVw (Y := YX7_ends) sv_X7_98 rfl yn_X7_ends 9 (by decide) rfl rfl dX7_join_12 (k_ends (P := pW (fun v V3 => P (.inl (some v)) sh sz V3 ∧ ∃ x, v = .int x) sh sz) u3 hb (fun hq0 V3 a b => ⟨_, rfl, rfl, rfl, hP.no hq0 (hw.trans a) b, _, rfl⟩) (fun hq0 V3 a b => ⟨_, rfl, rfl, rfl, hP.yes hq hq0 (hw.trans a) b, _, rfl⟩)) h0 rfl rfl rfl (Nat.le_of_ble_eq_true rfl) ⟨rfl, rfl⟩ (fun v V3 q => ?_)
  obtain ⟨q, x, rfl⟩ := q
  exact g_iret rfl (nr_int _) dX7_join_15 (by decide) q
theorem q_start (S : St) (c : Int32) : sp_start S c = spq S (do_start S.1 c) ∧ dqOk (do_start S.1 c) := by
  unfold sp_start do_start
  repeat' split
  all_goals exact ⟨rfl, Nat.le_of_ble_eq_true rfl, fun h => by first | rfl | cases h⟩
set_option maxRecDepth 100000 in
theorem r_start {c : Int32} (h : MS sh V m S th) (hI : InvB S.1) (hP : RI sh m sz V (sp_start S c) P) : MC E YX7_start [.ref m, .int c] sh sz V P := by
  obtain ⟨r, hB⟩ := h
  have h0 := hB.1.1
  obtain ⟨e, hq⟩ := q_start S c
  rw [e] at hP
  generalize hD : do_start S.1 c = D at hP hq
  refine MC.of RX7 "start" rfl (by decide +kernel) rfl 0 [_, _] rfl (Nat.le_of_ble_eq_true rfl) ?_
  show G E MX7_start _ _ _ _ _ _ _ _ _
  refine g_aload_n dX7_start_0 rfl ?_
  refine g_callVv (Y := YX7_keep) (Q := (fun V1 => (∀ a, a ≠ m → a ≠ m + 2 → V1 a = V a) ∧ (∀ j, j ≠ 7 → V1 m j = V m j) ∧ MB sh V1 m S.1 0 r S ∧ Bk V1 m S.1)) sv_X7_92 rfl yn_X7_keep 9 (by decide) rfl rfl dX7_start_1 (k_keep hB (fun V' a b c d => ⟨rfl, rfl, rfl, a, b, c, d⟩)) h0 rfl rfl rfl (Nat.le_of_ble_eq_true rfl) ⟨rfl, rfl⟩ (fun V1 q => ?_)
  obtain ⟨w1, w2, w3, w4⟩ := q
  refine g_aload_n dX7_start_4 rfl ?_
  refine g_aload_n dX7_start_5 rfl ?_
  refine g_iload_n dX7_start_6 rfl ?_
  refine g_callVw (Y := YX7_doStart) sv_X7_165 rfl yn_X7_doStart 9 (by decide) rfl rfl dX7_start_7 (k_doStart (P := pW (fun v V2 => v = .int D.2.1 ∧ (∀ a, a ≠ m → a ≠ m + 1 → V2 a = V1 a) ∧ MB sh V2 m D.2.2.1 (nI D.1) (dqR r D.2.2.2) (dqS S D.2.2.2)) sh sz) w3 hI (fun V2 a b c => ⟨_, rfl, rfl, rfl, congrArg (fun z : Dq => Value.int z.2.1) hD, a, hD ▸ c⟩)) h0 rfl rfl rfl (Nat.le_of_ble_eq_true rfl) ⟨rfl, rfl⟩ (fun v V2 q => ?_)
  obtain ⟨rfl, u1, u3⟩ := q
  have e2 : V2 (m + 2) = V1 (m + 2) := u1 _ (by omega) (by omega)
  have hb : Bk V2 m S.1 := fun k hk => by rw [e2]; exact w4 k hk
  have hw : Mf V V2 m := (Mf.o1 w1).trans (Mf.o2 u1)
  refine g_callVw (Y := YX7_ends) sv_X7_98 rfl yn_X7_ends 9 (by decide) rfl rfl dX7_start_10 (k_ends (P := pW (fun v V3 => P (.inl (some v)) sh sz V3 ∧ ∃ x, v = .int x) sh sz) u3 hb (fun hq0 V3 a b => ⟨_, rfl, rfl, rfl, hP.no hq0 (hw.trans a) b, _, rfl⟩) (fun hq0 V3 a b => ⟨_, rfl, rfl, rfl, hP.yes hq hq0 (hw.trans a) b, _, rfl⟩)) h0 rfl rfl rfl (Nat.le_of_ble_eq_true rfl) ⟨rfl, rfl⟩ (fun v V3 q => ?_)
  obtain ⟨q, x, rfl⟩ := q
  exact g_iret rfl (nr_int _) dX7_start_13 (by decide) q
theorem q_roll (S : St) (c : Int32) : sp_roll S c = spq S (do_roll S.1 c) ∧ dqOk (do_roll S.1 c) := by
  unfold sp_roll do_roll
  repeat' split
  all_goals exact ⟨rfl, Nat.le_of_ble_eq_true rfl, fun h => by first | rfl | cases h⟩
set_option maxRecDepth 100000 in
theorem r_roll {c : Int32} (h : MS sh V m S th) (hI : InvB S.1) (hP : RI sh m sz V (sp_roll S c) P) : MC E YX7_roll [.ref m, .int c] sh sz V P := by
  obtain ⟨r, hB⟩ := h
  have h0 := hB.1.1
  obtain ⟨e, hq⟩ := q_roll S c
  rw [e] at hP
  generalize hD : do_roll S.1 c = D at hP hq
  refine MC.of RX7 "roll" rfl (by decide +kernel) rfl 0 [_, _] rfl (Nat.le_of_ble_eq_true rfl) ?_
  show G E MX7_roll _ _ _ _ _ _ _ _ _
  refine g_aload_n dX7_roll_0 rfl ?_
  refine g_callVv (Y := YX7_keep) (Q := (fun V1 => (∀ a, a ≠ m → a ≠ m + 2 → V1 a = V a) ∧ (∀ j, j ≠ 7 → V1 m j = V m j) ∧ MB sh V1 m S.1 0 r S ∧ Bk V1 m S.1)) sv_X7_92 rfl yn_X7_keep 9 (by decide) rfl rfl dX7_roll_1 (k_keep hB (fun V' a b c d => ⟨rfl, rfl, rfl, a, b, c, d⟩)) h0 rfl rfl rfl (Nat.le_of_ble_eq_true rfl) ⟨rfl, rfl⟩ (fun V1 q => ?_)
  obtain ⟨w1, w2, w3, w4⟩ := q
  refine g_aload_n dX7_roll_4 rfl ?_
  refine g_aload_n dX7_roll_5 rfl ?_
  refine g_iload_n dX7_roll_6 rfl ?_
  refine g_callVw (Y := YX7_doRoll) sv_X7_174 rfl yn_X7_doRoll 9 (by decide) rfl rfl dX7_roll_7 (k_doRoll (P := pW (fun v V2 => v = .int D.2.1 ∧ (∀ a, a ≠ m → a ≠ m + 1 → V2 a = V1 a) ∧ MB sh V2 m D.2.2.1 (nI D.1) (dqR r D.2.2.2) (dqS S D.2.2.2)) sh sz) w3 hI (fun V2 a b c => ⟨_, rfl, rfl, rfl, congrArg (fun z : Dq => Value.int z.2.1) hD, a, hD ▸ c⟩)) h0 rfl rfl rfl (Nat.le_of_ble_eq_true rfl) ⟨rfl, rfl⟩ (fun v V2 q => ?_)
  obtain ⟨rfl, u1, u3⟩ := q
  have e2 : V2 (m + 2) = V1 (m + 2) := u1 _ (by omega) (by omega)
  have hb : Bk V2 m S.1 := fun k hk => by rw [e2]; exact w4 k hk
  have hw : Mf V V2 m := (Mf.o1 w1).trans (Mf.o2 u1)
  refine g_callVw (Y := YX7_ends) sv_X7_98 rfl yn_X7_ends 9 (by decide) rfl rfl dX7_roll_10 (k_ends (P := pW (fun v V3 => P (.inl (some v)) sh sz V3 ∧ ∃ x, v = .int x) sh sz) u3 hb (fun hq0 V3 a b => ⟨_, rfl, rfl, rfl, hP.no hq0 (hw.trans a) b, _, rfl⟩) (fun hq0 V3 a b => ⟨_, rfl, rfl, rfl, hP.yes hq hq0 (hw.trans a) b, _, rfl⟩)) h0 rfl rfl rfl (Nat.le_of_ble_eq_true rfl) ⟨rfl, rfl⟩ (fun v V3 q => ?_)
  obtain ⟨q, x, rfl⟩ := q
  exact g_iret rfl (nr_int _) dX7_roll_13 (by decide) q
theorem q_pass (S : St) (d : Int32) : sp_pass S d = spq S (do_pass S.1 d) ∧ dqOk (do_pass S.1 d) := by
  unfold sp_pass do_pass
  repeat' split
  all_goals exact ⟨rfl, Nat.le_of_ble_eq_true rfl, fun h => by first | rfl | cases h⟩
set_option maxRecDepth 100000 in
theorem r_pass {d : Int32} (h : MS sh V m S th) (hI : InvB S.1) (hP : RI sh m sz V (sp_pass S d) P) : MC E YX7_pass [.ref m, .int d] sh sz V P := by
  obtain ⟨r, hB⟩ := h
  have h0 := hB.1.1
  obtain ⟨e, hq⟩ := q_pass S d
  rw [e] at hP
  generalize hD : do_pass S.1 d = D at hP hq
  refine MC.of RX7 "pass" rfl (by decide +kernel) rfl 0 [_, _] rfl (Nat.le_of_ble_eq_true rfl) ?_
  show G E MX7_pass _ _ _ _ _ _ _ _ _
  refine g_aload_n dX7_pass_0 rfl ?_
  refine g_callVv (Y := YX7_keep) (Q := (fun V1 => (∀ a, a ≠ m → a ≠ m + 2 → V1 a = V a) ∧ (∀ j, j ≠ 7 → V1 m j = V m j) ∧ MB sh V1 m S.1 0 r S ∧ Bk V1 m S.1)) sv_X7_92 rfl yn_X7_keep 9 (by decide) rfl rfl dX7_pass_1 (k_keep hB (fun V' a b c d => ⟨rfl, rfl, rfl, a, b, c, d⟩)) h0 rfl rfl rfl (Nat.le_of_ble_eq_true rfl) ⟨rfl, rfl⟩ (fun V1 q => ?_)
  obtain ⟨w1, w2, w3, w4⟩ := q
  refine g_aload_n dX7_pass_4 rfl ?_
  refine g_aload_n dX7_pass_5 rfl ?_
  refine g_iload_n dX7_pass_6 rfl ?_
  refine g_callVw (Y := YX7_doPass) sv_X7_208 rfl yn_X7_doPass 9 (by decide) rfl rfl dX7_pass_7 (k_doPass (P := pW (fun v V2 => v = .int D.2.1 ∧ (∀ a, a ≠ m → a ≠ m + 1 → V2 a = V1 a) ∧ MB sh V2 m D.2.2.1 (nI D.1) (dqR r D.2.2.2) (dqS S D.2.2.2)) sh sz) w3 hI (fun V2 a b c => ⟨_, rfl, rfl, rfl, congrArg (fun z : Dq => Value.int z.2.1) hD, a, hD ▸ c⟩)) h0 rfl rfl rfl (Nat.le_of_ble_eq_true rfl) ⟨rfl, rfl⟩ (fun v V2 q => ?_)
  obtain ⟨rfl, u1, u3⟩ := q
  have e2 : V2 (m + 2) = V1 (m + 2) := u1 _ (by omega) (by omega)
  have hb : Bk V2 m S.1 := fun k hk => by rw [e2]; exact w4 k hk
  have hw : Mf V V2 m := (Mf.o1 w1).trans (Mf.o2 u1)
  refine g_callVw (Y := YX7_ends) sv_X7_98 rfl yn_X7_ends 9 (by decide) rfl rfl dX7_pass_10 (k_ends (P := pW (fun v V3 => P (.inl (some v)) sh sz V3 ∧ ∃ x, v = .int x) sh sz) u3 hb (fun hq0 V3 a b => ⟨_, rfl, rfl, rfl, hP.no hq0 (hw.trans a) b, _, rfl⟩) (fun hq0 V3 a b => ⟨_, rfl, rfl, rfl, hP.yes hq hq0 (hw.trans a) b, _, rfl⟩)) h0 rfl rfl rfl (Nat.le_of_ble_eq_true rfl) ⟨rfl, rfl⟩ (fun v V3 q => ?_)
  obtain ⟨q, x, rfl⟩ := q
  exact g_iret rfl (nr_int _) dX7_pass_13 (by decide) q
end REF11

