/-! what an order that is carried out does -/
section MATHEX
variable {f : Fl}
theorem join_0 {c : Nat} (h : joinO f c = (nI 0, nI 0)) : ¬ 0 ≤ f (oC c 2) ∧ ncv f c < 4 := by
  unfold joinO at h
  by_cases q : 0 ≤ f (oC c 2)
  · rw [if_pos q] at h
    exact absurd (Prod.mk.inj h).1 (nI_ne0 (by decide) (by decide))
  · rw [if_neg q] at h
    by_cases z : ncv f c < 4
    · exact ⟨q, z⟩
    · rw [if_neg z] at h
      exact absurd (Prod.mk.inj h).1 (nI_ne0 (by decide) (by decide))
theorem ex_ok {q : Int32 × Int32 × Int32 × Int32} (hI : InvB f) (hL : isL q.1) (h : exO f q = nI 0) :
    (∃ j, j < 12 ∧ exF f q = drF f j) ∨ (∃ c, c < cnt f ∧ startO f c = (nI 0, nI 0) ∧ exF f q = startF f c) ∨ (∃ c, c < cnt f ∧ rollO f c = (nI 0, nI 0) ∧ exF f q = advF f c) ∨
    (isSV 0 q.2.1 ∧ exF f q = upd f 5 q.2.1) ∨ (∃ c a b, c < cnt f ∧ a < 2 ∧ b < 5 ∧ ¬ f (oR (a * 5 + b)) = 0 ∧ joinO f c = (nI 0, nI 0) ∧ exF f q = jnF f c (a * 5 + b)) ∨ (∃ n, exF f q = passF f n) := by
  obtain ⟨l, a, b, c⟩ := q
  have h4 := hI.1.2
  unfold exO at h
  unfold exF
  have hL : isL l := hL
  dsimp only at h ⊢
  rcases hL with rfl | rfl | rfl | rfl | rfl | rfl
  · left
    rw [if_pos rfl] at h
    rw [if_pos rfl]
    by_cases z : isM a
    · obtain ⟨j, hj, e⟩ := isM_nI z
      refine ⟨j, hj, ?_⟩
      show drF f a.toNatClampNeg = _
      rw [e, nI_clamp (by omega)]
    · have h : (if isM a then nI 0 else -1) = nI 0 := h
      rw [if_neg z] at h
      exact absurd h (by decide)
  · right; left
    rw [if_neg (by decide), if_pos rfl] at h
    rw [if_neg (by decide), if_pos rfl]
    have h : obs f a (startO f) = nI 0 := h
    have hin : isC f a := Classical.byContradiction fun w => by
      rw [obs_f w] at h
      exact absurd h (by decide)
    obtain ⟨d, hd, rfl⟩ := isC_of hI hin
    rw [obs_t hI hd] at h
    refine ⟨d, hd, enc_0' (start_code f (c := d) (by omega)) h, ?_⟩
    show startF f (nI d).toNatClampNeg = _
    rw [nI_clamp (by omega)]
  · right; right; left
    rw [if_neg (by decide), if_neg (by decide), if_pos rfl] at h
    rw [if_neg (by decide), if_neg (by decide), if_pos rfl]
    have h : obs f a (rollO f) = nI 0 := h
    have hin : isC f a := Classical.byContradiction fun w => by
      rw [obs_f w] at h
      exact absurd h (by decide)
    obtain ⟨d, hd, rfl⟩ := isC_of hI hin
    rw [obs_t hI hd] at h
    refine ⟨d, hd, enc_0' (roll_code f (c := d) (by omega)) h, ?_⟩
    show advF f (nI d).toNatClampNeg = _
    rw [nI_clamp (by omega)]
  · right; right; right; left
    rw [if_neg (by decide), if_neg (by decide), if_neg (by decide), if_pos rfl] at h
    rw [if_neg (by decide), if_neg (by decide), if_neg (by decide), if_pos rfl]
    have h : (if isSV 0 a then nI 0 else -3) = nI 0 := h
    by_cases z : isSV 0 a
    · exact ⟨z, rfl⟩
    · rw [if_neg z] at h
      exact absurd h (by decide)
  · right; right; right; right; left
    rw [if_neg (by decide), if_neg (by decide), if_neg (by decide), if_neg (by decide), if_pos rfl] at h
    rw [if_neg (by decide), if_neg (by decide), if_neg (by decide), if_neg (by decide), if_pos rfl]
    have h : joinA f a b c = nI 0 := h
    have hin : isC f a ∧ isPl b c := Classical.byContradiction fun w => by
      rw [joinA_f w] at h
      exact absurd h (by decide)
    obtain ⟨d, hd, rfl⟩ := isC_of hI hin.1
    obtain ⟨i, hi, rfl⟩ := in_nI hin.2.1.1 hin.2.1.2 (by decide)
    obtain ⟨k, hk, rfl⟩ := in_nI hin.2.2.1 hin.2.2.2 (by decide)
    rw [joinA_t hI hd hi hk] at h
    by_cases z : f (oR (i * 5 + k)) = 0
    · rw [if_pos z] at h
      exact absurd h (by decide)
    · rw [if_neg z] at h
      refine ⟨d, i, k, hd, hi, hk, z, enc_0' (join_code f (c := d) (by omega)) h, ?_⟩
      show jnF f (nI d).toNatClampNeg ((nI i).toNatClampNeg * 5 + (nI k).toNatClampNeg) = _
      rw [nI_clamp (by omega), nI_clamp (by omega), nI_clamp (by omega)]
  · right; right; right; right; right
    exact ⟨a.toNatClampNeg, by rw [if_neg (by decide), if_neg (by decide), if_neg (by decide), if_neg (by decide), if_neg (by decide)]⟩
theorem exF_inv {q : Int32 × Int32 × Int32 × Int32} (hI : InvB f) (hL : isL q.1) (h : exO f q = nI 0) : InvB (exF f q) := by
  rcases ex_ok hI hL h with ⟨j, hj, e⟩ | ⟨c, hc, h0, e⟩ | ⟨c, hc, h0, e⟩ | ⟨h0, e⟩ | ⟨c, a, b, hc, ha, hb, h0, h1, e⟩ | ⟨n, e⟩
  · rw [e]; exact drF_inv hI hj
  · rw [e]; exact startF_inv hI hc h0
  · rw [e]; exact advF_inv hI hc h0
  · rw [e]; exact setF_inv hI h0
  · rw [e]; exact jnF_inv hI hc (by omega) h0 (join_0 h1).1 (join_0 h1).2
  · rw [e]; exact passF_inv hI
/-- an order that is refused: its reason -/
theorem ex_ref {q : Int32 × Int32 × Int32 × Int32} (hI : InvB f) (hL : isL q.1) (h : exO f q ≠ nI 0) : exO f q < 0 ∨ (0 < exO f q ∧ codeOk (exZ f q) ∧ exO f q = enc (exZ f q)) := by
  obtain ⟨l, a, b, c⟩ := q
  have h4 := hI.1.2
  have hL : isL l := hL
  have K : ∀ z : Int32 × Int32, codeOk z → enc z ≠ nI 0 → 0 < enc z := fun z hz hn => (enc_pos hz (fun e => hn ((enc_0 hz).mpr e))).1
  unfold exO at h ⊢
  unfold exZ
  dsimp only at h ⊢
  rcases hL with rfl | rfl | rfl | rfl | rfl | rfl
  · left
    rw [if_pos rfl] at h ⊢
    have h : (if isM a then nI 0 else -1) ≠ nI 0 := h
    show (if isM a then nI 0 else -1) < 0
    by_cases z : isM a
    · rw [if_pos z] at h
      exact absurd rfl h
    · rw [if_neg z]
      decide
  · rw [if_neg (by decide), if_pos rfl] at h
    rw [if_neg (by decide), if_pos rfl, if_pos rfl]
    have h : obs f a (startO f) ≠ nI 0 := h
    show obs f a (startO f) < 0 ∨ (0 < obs f a (startO f) ∧ codeOk (startO f a.toNatClampNeg) ∧ obs f a (startO f) = enc (startO f a.toNatClampNeg))
    by_cases z : isC f a
    · obtain ⟨d, hd, rfl⟩ := isC_of hI z
      rw [obs_t hI hd] at h ⊢
      rw [nI_clamp (by omega)]
      exact Or.inr ⟨K _ (start_code f (by omega)) h, start_code f (by omega), rfl⟩
    · rw [obs_f z]
      exact Or.inl (by decide)
  · rw [if_neg (by decide), if_neg (by decide), if_pos rfl] at h
    rw [if_neg (by decide), if_neg (by decide), if_pos rfl, if_neg (by decide), if_pos rfl]
    have h : obs f a (rollO f) ≠ nI 0 := h
    show obs f a (rollO f) < 0 ∨ (0 < obs f a (rollO f) ∧ codeOk (rollO f a.toNatClampNeg) ∧ obs f a (rollO f) = enc (rollO f a.toNatClampNeg))
    by_cases z : isC f a
    · obtain ⟨d, hd, rfl⟩ := isC_of hI z
      rw [obs_t hI hd] at h ⊢
      rw [nI_clamp (by omega)]
      exact Or.inr ⟨K _ (roll_code f (by omega)) h, roll_code f (by omega), rfl⟩
    · rw [obs_f z]
      exact Or.inl (by decide)
  · left
    rw [if_neg (by decide), if_neg (by decide), if_neg (by decide), if_pos rfl] at h ⊢
    have h : (if isSV 0 a then nI 0 else -3) ≠ nI 0 := h
    show (if isSV 0 a then nI 0 else -3) < 0
    by_cases z : isSV 0 a
    · rw [if_pos z] at h
      exact absurd rfl h
    · rw [if_neg z]
      decide
  · rw [if_neg (by decide), if_neg (by decide), if_neg (by decide), if_neg (by decide), if_pos rfl] at h
    rw [if_neg (by decide), if_neg (by decide), if_neg (by decide), if_neg (by decide), if_pos rfl, if_neg (by decide), if_neg (by decide)]
    have h : joinA f a b c ≠ nI 0 := h
    show joinA f a b c < 0 ∨ (0 < joinA f a b c ∧ codeOk (joinO f a.toNatClampNeg) ∧ joinA f a b c = enc (joinO f a.toNatClampNeg))
    by_cases z : isC f a ∧ isPl b c
    · obtain ⟨d, hd, rfl⟩ := isC_of hI z.1
      obtain ⟨i, hi, rfl⟩ := in_nI z.2.1.1 z.2.1.2 (by decide)
      obtain ⟨k, hk, rfl⟩ := in_nI z.2.2.1 z.2.2.2 (by decide)
      rw [joinA_t hI hd hi hk] at h ⊢
      rw [nI_clamp (by omega)]
      by_cases y : f (oR (i * 5 + k)) = 0
      · rw [if_pos y]
        exact Or.inl (by decide)
      · rw [if_neg y] at h ⊢
        exact Or.inr ⟨K _ (join_code f (by omega)) h, join_code f (by omega), rfl⟩
    · rw [joinA_f z]
      exact Or.inl (by decide)
  · left
    rw [if_neg (by decide), if_neg (by decide), if_neg (by decide), if_neg (by decide), if_neg (by decide)] at h ⊢
    have h : (if isDay a then nI 0 else -3) ≠ nI 0 := h
    show (if isDay a then nI 0 else -3) < 0
    by_cases z : isDay a
    · rw [if_pos z] at h
      exact absurd rfl h
    · rw [if_neg z]
      decide
theorem rollS_all {c : Nat} (hI : InvB f) (hc : c < cnt f) : ∀ {d}, d ≤ rollN f c → InvB (rollS f c d) ∧ cnt (rollS f c d) = cnt f ∧ (0 < d → f (oC c 2) + nI d = rollS f c d (oC c 2))
  | 0, _ => ⟨hI, rfl, fun h => absurd h (Nat.lt_irrefl 0)⟩
  | d + 1, h => by
    obtain ⟨i1, i2, i3⟩ := rollS_all hI hc (d := d) (by omega)
    have h1 : rollO (rollS f c d) c = (nI 0, nI 0) := by
      have := fa_first_no (fun d => cb (rollO (rollS f c d) c ≠ (nI 0, nI 0))) 60 d (by unfold rollN at h; omega)
      exact Classical.byContradiction fun q => by
        have t : cb (rollO (rollS f c d) c ≠ (nI 0, nI 0)) = true := cb_t q
        rw [t] at this
        cases this
    refine ⟨advF_inv i1 (by rw [i2]; exact hc) h1, ?_, fun _ => ?_⟩
    · show cnt (advF (rollS f c d) c) = _
      unfold advF
      rw [advN_cnt, i2]
    · show _ = advF (rollS f c d) c (oC c 2)
      unfold advF
      rw [advN_ld]
      rcases Nat.eq_zero_or_pos d with z | z
      · subst z
        rfl
      · rw [← i3 z, Int32.add_assoc, nI_add]
theorem rollN_le {c : Nat} (hI : InvB f) (hc : c < cnt f) : rollN f c ≤ 24 := by
  refine Nat.le_of_not_lt fun h => ?_
  obtain ⟨i1, i2, i3⟩ := rollS_all hI hc (d := 24) (by omega)
  have i3 := i3 (by decide)
  have h1 : rollO (rollS f c 24) c = (nI 0, nI 0) := by
    have := fa_first_no (fun d => cb (rollO (rollS f c d) c ≠ (nI 0, nI 0))) 60 24 (by unfold rollN at h; omega)
    exact Classical.byContradiction fun q => by
      have t : cb (rollO (rollS f c 24) c ≠ (nI 0, nI 0)) = true := cb_t q
      rw [t] at this
      cases this
  obtain ⟨e1, e2, -⟩ := roll_0 i1 (by rw [i2]; exact hc) h1
  obtain ⟨l, hl, el⟩ := roll_lead i1 (by rw [i2]; exact hc) e1 e2
  rw [el] at i3
  have h0 := (fa_first_no (fun d => cb (rollO (rollS f c d) c ≠ (nI 0, nI 0))) 60 0 (by unfold rollN at h; omega))
  have h00 : rollO f c = (nI 0, nI 0) := Classical.byContradiction fun q => by
    have t : cb (rollO (rollS f c 0) c ≠ (nI 0, nI 0)) = true := cb_t q
    rw [t] at h0
    cases h0
  obtain ⟨e1, e2, -⟩ := roll_0 hI hc h00
  obtain ⟨l0, hl0, el0⟩ := roll_lead hI hc e1 e2
  rw [el0, nI_add] at i3
  have := (nI_eq (by omega) (by omega)).mp i3
  omega
end MATHEX

