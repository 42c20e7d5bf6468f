/-! what the changes leave for an undoing -/
section UNDO
variable {E : gE} {M : gM} {P : gP} {sh sh' : Sh} {sz sz' : Nat} {V V' : Vl} {cu su pc : Nat} {L : List (Option Value)} {rest : List Value} {x : Nat} {S S' : St} {A : La} {N : Nat} {b t n : Nat}
theorem u_set {w v : Int32} (hI : InvS S) (hl : S.2.2.2.2.2.1 = 0) (hD : InvD N S.1) : ∃ z, rv [-101] (sp_set S w v) = .int z ∧ Und N S (sp_set S w v).2.2 (¬ z ≤ -101) := by
  unfold sp_set
  by_cases h : isSV w v
  · rw [if_pos h]
    refine ⟨_, rfl, .push hl ((D_set hD h).le (by omega)) ?_⟩
    obtain ⟨⟨s0, s1⟩, -⟩ := h
    obtain ⟨k, hk, rfl⟩ := in_nI s0 s1 (by decide)
    rw [nI_clamp (by omega)]
    obtain ⟨l6, hl6, el⟩ := hI.1.1.2.2.1
    obtain ⟨-, l7, hl7, el7⟩ := hD
    refine fun q => ?_
    have q : S.1 (5 + k) ≤ -101 := q
    rcases (show k = 0 ∨ k = 1 ∨ k = 2 by omega) with rfl | rfl | rfl
    · exact absurd (Int32.le_trans hI.1.1.2.1.1 q) (by decide)
    · rw [show S.1 (5 + 1) = nI l6 from el] at q
      exact absurd (Int32.le_trans (nI_pos' (by omega)) q) (by decide)
    · rw [show S.1 (5 + 2) = nI l7 from el7] at q
      exact absurd (Int32.le_trans (nI_pos' (by omega)) q) (by decide)
  · rw [if_neg h]
    exact ⟨-101, rfl, .same hl hD (fun q => q (Int32.le_refl _))⟩
theorem u_drill {a : Int32} (hI : InvS S) (hl : S.2.2.2.2.2.1 = 0) (hD : InvD N S.1) : ∃ z, rv [-1] (sp_drill S a) = .int z ∧ Und N S (sp_drill S a).2.2 (¬ z = -1) := by
  unfold sp_drill
  by_cases h : isM a
  · rw [if_pos h]
    obtain ⟨j, hj, rfl⟩ := isM_nI h
    rw [nI_clamp (by omega)]
    refine ⟨_, rfl, .push hl ((D_dr hD).le (by omega)) (fun q => ?_)⟩
    have hok := (hI.1.1.2.2.2.1 j hj).1.n
    have q : S.1 (oM j 0) = -1 := q
    rw [q] at hok
    exact absurd (show (-1 : Int32).toUInt32.toNat < 2139095040 from hok) (by decide)
  · rw [if_neg h]
    exact ⟨-1, rfl, .same hl hD (fun q => q rfl)⟩
theorem u_truck {kd w ax r : Int32} (hI : InvS S) (hl : S.2.2.2.2.2.1 = 0) (hD : InvD N S.1) : ∃ z, rv [-1, -2, -3] (sp_truck S kd w ax r) = .int z ∧ Und N S (sp_truck S kd w ax r).2.2 (¬ z < 0) := by
  unfold sp_truck
  by_cases h : isR r
  rotate_left
  · rw [if_neg h]
    exact ⟨-1, rfl, .same hl hD (fun q => q (by decide))⟩
  rw [if_pos h]
  by_cases h1 : isTk kd w ax
  rotate_left
  · rw [if_neg h1]
    exact ⟨-2, rfl, .same hl hD (fun q => q (by decide))⟩
  rw [if_pos h1]
  by_cases h2 : freeF S.1 r.toNatClampNeg < 0
  · rw [if_pos h2]
    exact ⟨-3, rfl, .refu hl hD (fun q => q (by decide))⟩
  rw [if_neg h2]
  by_cases h3 : kd = r
  · rw [if_pos h3]
    exact ⟨_, rfl, .push hl ((hD.sm sd_tr).le (by omega)) h2⟩
  · rw [if_neg h3]
    exact ⟨-3, rfl, .refu hl hD (fun q => q (by decide))⟩
theorem u_convoy {g : Int32} (hl : S.2.2.2.2.2.1 = 0) (hD : InvD N S.1) : ∃ z, rv [-1, -2] (sp_convoy S g) = .int z ∧ Und N S (sp_convoy S g).2.2 (¬ z < 0) := by
  unfold sp_convoy
  by_cases h : nI 1 ≤ g ∧ g ≤ nI 3
  rotate_left
  · rw [if_neg h]
    exact ⟨-1, rfl, .same hl hD (fun q => q (by decide))⟩
  rw [if_pos h]
  by_cases h1 : cnt S.1 < 4
  · rw [if_pos h1]
    exact ⟨_, rfl, .push hl ((hD.sm sd_cv).le (by omega)) (nI_pos (by omega))⟩
  · rw [if_neg h1]
    exact ⟨-2, rfl, .refu hl hD (fun q => q (by decide))⟩
theorem u_join {c r p : Int32} (hI : InvS S) (hl : S.2.2.2.2.2.1 = 0) (hD : InvD N S.1) : ∃ z, rv [-1, -2, -3] (sp_join S c r p) = .int z ∧ Und N S (sp_join S c r p).2.2 (¬ z < 0) := by
  unfold sp_join
  by_cases h : isC S.1 c ∧ isPl r p
  rotate_left
  · rw [if_neg h]
    exact ⟨-1, rfl, .same hl hD (fun q => q (by decide))⟩
  rw [if_pos h]
  by_cases h1 : S.1 (oR (r.toNatClampNeg * 5 + p.toNatClampNeg)) = 0
  · rw [if_pos h1]
    exact ⟨-2, rfl, .same hl hD (fun q => q (by decide))⟩
  rw [if_neg h1]
  by_cases h2 : joinO S.1 c.toNatClampNeg = (nI 0, nI 0)
  · rw [if_pos h2]
    refine ⟨_, rfl, .push hl ((hD.sm sd_jn).le (by omega)) ?_⟩
    obtain ⟨d, hd, rfl⟩ := isC_of hI.1.1 h.1
    have := hI.1.1.1.2
    have := (hI.1.1.cv hd).2.2.1
    rw [nI_clamp (by omega)]
    exact nI_pos (by omega)
  · rw [if_neg h2]
    exact ⟨-3, rfl, .refu hl hD (fun q => q (by decide))⟩
theorem u_start {c : Int32} (hI : InvS S) (hl : S.2.2.2.2.2.1 = 0) (hD : InvD N S.1) : ∃ z, rv [-1, -2] (sp_start S c) = .int z ∧ Und N S (sp_start S c).2.2 (¬ z < 0) := by
  unfold sp_start
  by_cases h : isC S.1 c
  rotate_left
  · rw [if_neg h]
    exact ⟨-1, rfl, .same hl hD (fun q => q (by decide))⟩
  rw [if_pos h]
  by_cases h2 : startO S.1 c.toNatClampNeg = (nI 0, nI 0)
  · rw [if_pos h2]
    refine ⟨_, rfl, .push hl ((hD.sm sd_start).le (by omega)) ?_⟩
    obtain ⟨d, hd, rfl⟩ := isC_of hI.1.1 h
    have := hI.1.1.1.2
    have := (hI.1.1.cv hd).2.2.1
    rw [nI_clamp (by omega)]
    exact nI_pos (by omega)
  · rw [if_neg h2]
    exact ⟨-2, rfl, .refu hl hD (fun q => q (by decide))⟩
theorem u_roll {c : Int32} (hI : InvS S) (hl : S.2.2.2.2.2.1 = 0) (hD : InvD N S.1) : ∃ z, rv [-1, -2] (sp_roll S c) = .int z ∧ Und N S (sp_roll S c).2.2 (¬ z < 0) := by
  unfold sp_roll
  by_cases h : isC S.1 c
  rotate_left
  · rw [if_neg h]
    exact ⟨-1, rfl, .same hl hD (fun q => q (by decide))⟩
  rw [if_pos h]
  by_cases h2 : rollO S.1 c.toNatClampNeg = (nI 0, nI 0)
  · rw [if_pos h2]
    refine ⟨_, rfl, .push hl ((hD.sm sd_adv).le (by omega)) ?_⟩
    obtain ⟨d, hd, rfl⟩ := isC_of hI.1.1 h
    have := hI.1.1.1.2
    have := (hI.1.1.cv hd).2.2.1
    rw [nI_clamp (by omega)]
    have h5 := fb_ct_le (fun k => decide (isM (mt (advF S.1 d (oC d 2)) (advF S.1 d (oC d 0)) k))) (ncv (advF S.1 d) d)
    have h6 : ncv (advF S.1 d) d = ncv S.1 d := advN_ncv
    exact nI_pos (by unfold onR; omega)
  · rw [if_neg h2]
    exact ⟨-2, rfl, .refu hl hD (fun q => q (by decide))⟩
theorem u_pass {d : Int32} (hl : S.2.2.2.2.2.1 = 0) (hD : InvD N S.1) (hN : N ≤ 900000) : ∃ z, rv [-1] (sp_pass S d) = .int z ∧ Und N S (sp_pass S d).2.2 (¬ z < 0) := by
  unfold sp_pass
  by_cases h : isDay d
  rotate_left
  · rw [if_neg h]
    exact ⟨-1, rfl, .same hl hD (fun q => q (by decide))⟩
  rw [if_pos h]
  obtain ⟨m, hm, rfl⟩ : ∃ m, m < 31 ∧ d = nI m := in_nI (Int32.le_trans (by decide) h.1) (Int32.lt_of_le_of_lt h.2 (by decide)) (by decide)
  rw [nI_clamp (by omega)]
  refine ⟨_, rfl, .push hl ((passF_D hD).le (by omega)) ?_⟩
  obtain ⟨ga, gb, h1, h2, h3, h4⟩ := good_mono (n := m) hD (by omega)
  rw [h3, h4, pk_sub h2]
  exact nI_pos (by omega)
/-! a builder in the law's world -/
theorem LW.oth (h : LW x S A sh sz V) (hO : Oth b t V V') (hb : x + 284 ≤ b) (ht : x + 284 ≤ t) (hA : ∀ q ∈ A, q.1 ≠ b ∧ q.1 ≠ t) (h8b : ¬ (sh b).1 = 8) (h8t : ¬ (sh t).1 = 8) : LW x S A sh sz V' := by
  obtain ⟨h1, h2, h3, h4, h5⟩ := h
  refine ⟨CAt.keep h1 (fun a a1 a2 => hO a (by omega) (by omega)) (fun q hq => hO q (fun e => h8b (by rw [← e]; exact hq)) (fun e => h8t (by rw [← e]; exact hq))), h2, h3, h4, fun q hq => ?_⟩
  obtain ⟨a1, a2, a3, a4⟩ := h5 q hq
  exact ⟨a1, a2, a3, (hO _ (hA q hq).1 (hA q hq).2).trans a4⟩
theorem LW.grow (h : LW x S A sh sz V) (hz : sz ≤ sz') (h1 : ∀ a, a < sz → sh' a = sh a ∧ V' a = V a) (hW : Wf sh' sz') : LW x S A sh' sz' V' := by
  obtain ⟨g1, g2, g3, g4, g5⟩ := h
  refine ⟨CAt.grow g1 (sz := sz) g3 h1, g2, hW, by omega, fun q hq => ?_⟩
  obtain ⟨a, b, c, d⟩ := g5 q hq
  exact ⟨a, by omega, (h1 _ b).1.trans c, (h1 _ b).2.trans d⟩
theorem LW.add {a : Nat} (h : LW x S A sh sz V) (h1 : x + 284 ≤ a) (h2 : a < sz) : LW x S ((a, sh a, V a) :: A) sh sz V := by
  obtain ⟨g1, g2, g3, g4, g5⟩ := h
  refine ⟨g1, g2, g3, g4, fun q hq => ?_⟩
  rcases List.mem_cons.mp hq with rfl | hq
  · exact ⟨h1, h2, rfl, rfl⟩
  · exact g5 q hq
theorem LW.at {q : Nat × (Nat × Nat) × (Nat → Value)} (h : LW x S A sh sz V) (hq : q ∈ A) : sh q.1 = q.2.1 ∧ V q.1 = q.2.2 := (h.2.2.2.2 q hq).2.2
def SW (x : Nat) (S : St) (A : La) (sh : Sh) (sz : Nat) (V : Vl) (b t n : Nat) : Prop := LW x S A sh sz V ∧ SbP sh V b t n ∧ (x + 284 ≤ b ∧ b < sz) ∧ (x + 284 ≤ t ∧ t < sz) ∧ ∀ q ∈ A, q.1 ≠ b ∧ q.1 ≠ t
theorem SW.step {m : Nat} (h : SW x S A sh sz V b t n) (hP : SbP sh V' b t m) (hO : Oth b t V V') : SW x S A sh sz V' b t m := by
  obtain ⟨h1, h2, h3, h4, h5⟩ := h
  have e1 : (sh b).1 = 10 := h2.2.1
  have e2 : sh t = (23, 16) := h2.2.2.2.2.2.1
  exact ⟨h1.oth hO h3.1 h4.1 h5 (by rw [e1]; decide) (by rw [e2]; decide), hP, h3, h4, h5⟩
theorem SW.mk {F : Nat → Value} (hA : LW x S A sh sz V) (h3 : F 3 = .int (nI 0)) : SW x S A (hs (hs sh sz (10, 4)) (sz + 1) (23, 16)) (sz + 2) (hu (hu (hn (hn V sz F) (sz + 1) (fun _ => .int (nI 0))) sz 0 (.ref (sz + 1))) sz 1 (.int (nI 0))) sz (sz + 1) 0 := by
  have hx := hA.2.2.2.1
  have eV : ∀ a, a ≠ sz → hu (hu (hn (hn V sz F) (sz + 1) (fun _ => .int (nI 0))) sz 0 (.ref (sz + 1))) sz 1 (.int (nI 0)) a = hn (hn V sz F) (sz + 1) (fun _ => .int (nI 0)) a := fun a ha => by rw [hu_ne _ _ _ ha, hu_ne _ _ _ ha]
  refine ⟨hA.grow (by omega) (fun a ha => ?_) (fun a ha => ?_), ⟨by omega, ?_, ?_, hu_at _ _ _ _, ?_, hs_at _ _ _, fun _ => nI 0, ?_, fun j _ => fb0⟩, ⟨hx, by omega⟩, ⟨by omega, by omega⟩, fun q hq => ?_⟩
  · rw [eV a (by omega), hn_ne _ _ (by omega), hn_ne _ _ (by omega), hs_ne _ _ (by omega), hs_ne _ _ (by omega)]
    exact ⟨rfl, rfl⟩
  · rw [hs_ne _ _ (by omega), hs_ne _ _ (by omega)]
    exact hA.2.2.1 a (by omega)
  · rw [hs_ne _ _ (by omega), hs_at]
  · rw [hu_at_ne _ _ _ (by decide), hu_at]
  · rw [hu_at_ne _ _ _ (by decide), hu_at_ne _ _ _ (by decide), hn_ne _ _ (by omega), hn_at]
    exact h3
  · rw [eV _ (by omega), hn_at]
  · have := (hA.2.2.2.2 q hq).2.1
    exact ⟨by omega, by omega⟩
/-- the builder put by, as cells of the law's own -/
theorem SW.push (h : SW x S A sh sz V b t n) : LW x S ((b, sh b, V b) :: (t, sh t, V t) :: A) sh sz V := (h.1.add h.2.2.2.1.1 h.2.2.2.1.2).add h.2.2.1.1 h.2.2.1.2
theorem SW.pop (h : SW x S A sh sz V b t n) (hA : LW x S' ((b, sh b, V b) :: (t, sh t, V t) :: A) sh' sz' V') : SW x S' A sh' sz' V' b t n := by
  obtain ⟨h1, ⟨a1, a2, a3, a4, a5, a6, a7⟩, h3, h4, h5⟩ := h
  obtain ⟨e1, e2⟩ := hA.at List.mem_cons_self
  obtain ⟨e3, e4⟩ := hA.at (List.mem_cons_of_mem _ List.mem_cons_self)
  have hz1 := (hA.2.2.2.2 _ List.mem_cons_self).2.1
  have hz2 := (hA.2.2.2.2 _ (List.mem_cons_of_mem _ List.mem_cons_self)).2.1
  have e1 : sh' b = sh b := e1
  have e2 : V' b = V b := e2
  have e3 : sh' t = sh t := e3
  have e4 : V' t = V t := e4
  refine ⟨hA.sub (fun q hq => List.mem_cons_of_mem _ (List.mem_cons_of_mem _ hq)), ⟨a1, by rw [e1]; exact a2, by rw [e2]; exact a3, by rw [e2]; exact a4, by rw [e2]; exact a5, by rw [e3]; exact a6, ?_⟩, ⟨h3.1, hz1⟩, ⟨h4.1, hz2⟩, h5⟩
  unfold Byf at a7 ⊢
  rw [e4]
  exact a7
/-- the String made: the law's world with its cells -/
theorem SW.str (h : SW x S A sh sz V b t n) (hsh : sh' = hs (hs sh sz (1, 4)) (sz + 1) (23, n)) (hsz : sz' = sz + 2) (hT : StrA E sh' V' sz (sz + 1) n) (hV : ∀ q, q < sz → V' q = V q) : LW x S ((sz, sh' sz, V' sz) :: (sz + 1, sh' (sz + 1), V' (sz + 1)) :: A) sh' sz' V' := by
  have hx := h.1.2.2.2.1
  subst hsz
  have h1 : LW x S A sh' (sz + 2) V' := h.1.grow (by omega) (fun a ha => ⟨by rw [hsh, hs_ne _ _ (by omega), hs_ne _ _ (by omega)], hV a ha⟩) (fun a ha => by rw [hsh, hs_ne _ _ (by omega), hs_ne _ _ (by omega)]; exact h.1.2.2.1 a (by omega))
  exact (h1.add (a := sz + 1) (by omega) (by omega)).add hx (by omega)
theorem StrA.stay {k v w : Nat} {B : La} (hT : StrA E sh V k v w) (hA : LW x S ((k, sh k, V k) :: (v, sh v, V v) :: B) sh' sz' V') : StrA E sh' V' k v w := by
  obtain ⟨e1, e2⟩ := hA.at List.mem_cons_self
  obtain ⟨e3, e4⟩ := hA.at (List.mem_cons_of_mem _ List.mem_cons_self)
  have e1 : sh' k = sh k := e1
  have e2 : V' k = V k := e2
  have e3 : sh' v = sh v := e3
  have e4 : V' v = V v := e4
  obtain ⟨h0, h | ⟨a1, a2, a3, a4, a5⟩⟩ := hT
  · exact ⟨h0, Or.inl h⟩
  · refine ⟨h0, Or.inr ⟨by rw [e1]; exact a1, by rw [e2]; exact a2, by rw [e2]; exact a3, by rw [e3]; exact a4, ?_⟩⟩
    unfold Byt at a5 ⊢
    rw [e4]
    exact a5
theorem strC {i : Nat} (hi : i < 4) : StrA E sh V (E.2.2.2.2.1 (100 + i)) (E.2.2.2.2.1 (200 + i)) (gsb i).length := by
  have : ∀ i, i < 4 → (gsb i).length ≤ 60 := by decide
  exact ⟨this i hi, Or.inl ⟨i, hi, rfl, rfl, rfl⟩⟩
end UNDO

