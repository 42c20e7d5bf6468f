/-! what comes ahead: purely -/
section LPURE3
variable {f g : Fl} {S : St}
/-- the latest k changes can be undone one after the other, back to rs 0 -/
def Stk (rs : Nat → Fl) (k : Nat) (S : St) : Prop := k ≤ S.2.2.2.1 ∧ ∀ i, i < k → S.2.2.1 (S.2.2.2.1 - 1 - i) = rs (k - 1 - i)
theorem Stk_0 (rs : Nat → Fl) (S : St) : Stk rs 0 S := ⟨Nat.zero_le _, fun i h => absurd h (Nat.not_lt_zero i)⟩
theorem Stk_gen {S' : St} {rs : Nat → Fl} {k : Nat} (h : Stk rs k S) (hk : k < 8) (h8 : S.2.2.2.1 ≤ 8) (e : rs k = S.1) (eH : S'.2.2.1 = pH S.2.2.1 S.2.2.2.1 S.1) (eC : S'.2.2.2.1 = pC S.2.2.2.1) : Stk rs (k + 1) S' := by
  obtain ⟨h1, h2⟩ := h
  refine ⟨?_, fun i hi => ?_⟩
  · rw [eC]
    unfold pC
    split <;> omega
  · rw [eH, eC]
    by_cases z : i = 0
    · subst z
      rw [show pC S.2.2.2.1 - 1 - 0 = pC S.2.2.2.1 - 1 from rfl, pH_top, show k + 1 - 1 - 0 = k by omega, e]
    · have h3 := h2 (i - 1) (by omega)
      rw [show k - 1 - (i - 1) = k + 1 - 1 - i by omega] at h3
      rw [← h3]
      unfold pH pC
      by_cases y : S.2.2.2.1 < 8
      · rw [if_pos y, if_pos y, if_neg (by omega)]
        exact congrArg _ (by omega)
      · rw [if_neg y, if_neg y, if_neg (by omega)]
        exact congrArg _ (by omega)
theorem Stk_push {rs : Nat → Fl} {k : Nat} {g : Fl} (h : Stk rs k S) (hk : k < 8) (h8 : S.2.2.2.1 ≤ 8) (e : rs k = S.1) : Stk rs (k + 1) (push S g) := Stk_gen h hk h8 e rfl rfl
theorem Stk_und {rs : Nat → Fl} {k : Nat} (h : Stk rs (k + 1) S) : ¬ S.2.2.2.1 = 0 ∧ (undS S).1 = rs k ∧ Stk rs k (undS S) := by
  obtain ⟨h1, h2⟩ := h
  refine ⟨by omega, ?_, ?_, fun i hi => ?_⟩
  · have := h2 0 (by omega)
    rw [show k + 1 - 1 - 0 = k by omega, show S.2.2.2.1 - 1 - 0 = S.2.2.2.1 - 1 by omega] at this
    exact this
  · show k ≤ S.2.2.2.1 - 1
    omega
  · have := h2 (i + 1) (by omega)
    show S.2.2.1 (S.2.2.2.1 - 1 - 1 - i) = _
    rw [show S.2.2.2.1 - 1 - 1 - i = S.2.2.2.1 - 1 - (i + 1) by omega, this]
    exact congrArg _ (by omega)
/-! rolls -/
theorem rollN_lt {c d : Nat} (h : d < rollN f c) : rollO (rollS f c d) c = (nI 0, nI 0) := by
  have := fa_first_no (fun d => cb (rollO (rollS f c d) c ≠ (nI 0, nI 0))) 60 d h
  exact Classical.byContradiction fun q => by
    have t : cb (rollO (rollS f c d) c ≠ (nI 0, nI 0)) = true := cb_t q
    rw [t] at this
    cases this
theorem rollN_at {c : Nat} (hI : InvB f) (hc : c < cnt f) : rollO (rollS f c (rollN f c)) c ≠ (nI 0, nI 0) := by
  have h := rollN_le hI hc
  exact cb_iff.mp (fa_first_yes (fun d => cb (rollO (rollS f c d) c ≠ (nI 0, nI 0))) 60 (by unfold rollN at h; omega))
theorem rollN_0 {c : Nat} (hI : InvB f) (hc : c < cnt f) : rollN f c = 0 ↔ rollO f c ≠ (nI 0, nI 0) := by
  constructor
  · intro h
    have := rollN_at hI hc
    rw [h] at this
    exact this
  · intro h
    rcases Nat.eq_zero_or_pos (rollN f c) with q | q
    · exact q
    · exact absurd (rollN_lt (d := 0) q) h
theorem rollS_add (f : Fl) (c k : Nat) : ∀ d, rollS (rollS f c k) c d = rollS f c (k + d)
  | 0 => rfl
  | d + 1 => by
    show advF (rollS (rollS f c k) c d) c = advF (rollS f c (k + d)) c
    rw [rollS_add f c k d]
theorem rollN_sub {c k : Nat} (hI : InvB f) (hc : c < cnt f) (hk : k ≤ rollN f c) : rollN (rollS f c k) c = rollN f c - k := by
  have h := rollN_le hI hc
  unfold rollN
  refine fa_first_eq (by unfold rollN at h; omega) (cb_t ?_) (fun j hj => cb_f (fun q => q ?_))
  · rw [rollS_add]
    have := rollN_at hI hc
    unfold rollN at this hk
    rw [Nat.add_sub_cancel' hk]
    exact this
  · rw [rollS_add]
    exact rollN_lt (by unfold rollN; omega)
/-! days -/
theorem passF_out {i : Nat} (h0 : i ≠ 0) (hi : ¬ (8 ≤ i ∧ i < 80)) : ∀ n, passF f n i = f i
  | 0 => rfl
  | n + 1 => by
    show upd (dayN (passF f n) 12) 0 _ i = _
    rw [pk_un h0, dayN_out hi (Nat.le_refl 12)]
    exact passF_out h0 hi n
theorem dayN_at {j : Nat} : ∀ {k : Nat}, dayN f k (oM j 0) = if j < k then (niF (f (oM j 0)).toUInt32 (f 5)).toInt32 else f (oM j 0)
  | 0 => rfl
  | k + 1 => by
    have ih := dayN_at (j := j) (k := k)
    show dayM (dayN f k) k (oM j 0) = _
    by_cases z : j = k
    · subst z
      rw [if_pos (Nat.lt_succ_self j)]
      rw [if_neg (Nat.lt_irrefl j)] at ih
      unfold dayM
      rw [pk_un (oM_ne (by decide)), pk_us, ih, dayN_low (by decide)]
    · rw [dayM_out (by unfold oM; omega), ih]
      by_cases y : j < k
      · rw [if_pos y, if_pos (by omega)]
      · rw [if_neg y, if_neg (by omega)]
theorem dayN_4 {j : Nat} : ∀ {k : Nat}, dayN f k (oM j 4) = f (oM j 4)
  | 0 => rfl
  | k + 1 => by
    show dayM (dayN f k) k (oM j 4) = _
    have ih := dayN_4 (j := j) (k := k)
    by_cases z : j = k
    · subst z
      unfold dayM
      rw [pk_un (oM_ne (by decide)), pk_un (oM_ne (by decide)), ih]
    · rw [dayM_out (by unfold oM; omega), ih]
theorem passF_ice {j : Nat} (hj : j < 12) : ∀ n, passF f n (oM j 0) = (iceN (f (oM j 0)).toUInt32 (f 5) n).toInt32
  | 0 => by simp [passF, iceN]
  | n + 1 => by
    show upd (dayN (passF f n) 12) 0 (dayN (passF f n) 12 0 + nI 1) (oM j 0) = _
    rw [pk_un (by unfold oM; omega), dayN_at, if_pos hj, passF_ice hj n, passF_out (by decide) (by omega) n, i_u]
    rfl
theorem passF_4 {j : Nat} : ∀ n, passF f n (oM j 4) = f (oM j 4)
  | 0 => rfl
  | n + 1 => by
    show upd (dayN (passF f n) 12) 0 (dayN (passF f n) 12 0 + nI 1) (oM j 4) = _
    rw [pk_un (by unfold oM; omega), dayN_4]
    exact passF_4 n
theorem passF_0 : ∀ n, passF f n 0 = f 0 + nI n
  | 0 => (add_nI0 _).symm
  | n + 1 => by
    show upd (dayN (passF f n) 12) 0 (dayN (passF f n) 12 0 + nI 1) 0 = _
    rw [pk_us, dayN_low (by decide), passF_0 n, Int32.add_assoc, nI_add]
theorem passF_D {N n : Nat} (h : InvD N f) : InvD (N + n) (passF f n) := by
  obtain ⟨⟨d, hd, e0, hm⟩, g, hg, e7⟩ := h
  refine ⟨⟨d + n, by omega, by rw [passF_0, e0, nI_add], fun j hj => ?_⟩, g, hg, by rw [passF_out (by decide) (by omega), e7]⟩
  rw [passF_4]
  rcases hm j hj with q | ⟨e, he, q⟩
  · exact Or.inl q
  · exact Or.inr ⟨e, by omega, q⟩
theorem gd_mono {N n j : Nat} (h : InvD N f) (hN : N + n ≤ 1000000) (hj : j < 12) (hg : gdF (passF f n) j) : gdF f j := by
  have h1 := (gd_iff (passF_D (n := n) h) hN hj).mp hg
  rw [passF_4, passF_0, passF_out (by decide) (by omega)] at h1
  refine (gd_iff h (by omega) hj).mpr ⟨h1.1, ?_⟩
  obtain ⟨⟨d, hd, e0, hm⟩, -⟩ := h
  have h2 := h1.2
  rw [e0, nI_add] at h2
  rw [e0]
  exact Int32.le_trans (nI_le (by omega) (by omega)) h2
noncomputable def gdC (f : Fl) (n : Nat) : Nat := fb_ct (fun j => cb (gdF f j)) n
theorem gdC_n (f : Fl) : ∀ n, sI (fun j => bgd f j) n = nI (gdC f n)
  | 0 => rfl
  | n + 1 => by
    rw [sI_succ, gdC_n f n]
    unfold gdC
    rw [fb_ct_succ]
    by_cases q : gdF f n
    · rw [bgd_t q, if_pos (cb_t q), nI_add]
    · rw [bgd_f q, if_neg (by rw [cb_f q]; decide), nI_add]
theorem good_mono {N n : Nat} (h : InvD N f) (hN : N + n ≤ 1000000) : ∃ a b, a ≤ 12 ∧ b ≤ a ∧ goodN f = nI a ∧ goodN (passF f n) = nI b :=
  ⟨gdC f 12, gdC (passF f n) 12, fb_ct_le _ _, fb_ct_sub (fun j hj q => cb_t (gd_mono h hN hj (cb_iff.mp q))), gdC_n f 12, gdC_n _ 12⟩
/-! in how many days -/
theorem br_spec {x : UInt32} {t tn : Int32} {d : Nat} (hd : d < 91) : (brN x t tn = d → brg (iceN x t d) tn) ∧ (d < brN x t tn → ¬ brg (iceN x t d) tn) := by
  constructor
  · intro h
    have := fa_first_yes (fun d => cb (brg (iceN x t d) tn)) 91 (by unfold brN at h; omega)
    have h2 : fa_first (fun d => cb (brg (iceN x t d) tn)) 91 = d := h
    rw [h2] at this
    exact cb_iff.mp this
  · intro h q
    have := fa_first_no (fun d => cb (brg (iceN x t d) tn)) 91 d h
    rw [cb_t q] at this
    cases this
theorem okI_iceN {x : UInt32} {t : Int32} (hx : okI x) (h1 : -40 ≤ t) (h2 : t ≤ nI 10) : ∀ n, okI (iceN x t n)
  | 0 => hx
  | n + 1 => okI_niF (okI_iceN hx h1 h2 n) h1 h2
theorem ushr_n (x : Int32) {k : Nat} (h1 : 1 ≤ k) (hk : k < 32) : ∃ n, n < 2 ^ 31 ∧ (x.toUInt32 >>> ((nI k).toUInt32 &&& Int32.toUInt32 31)).toInt32 = nI n := by
  have hs : (((nI k).toUInt32 &&& Int32.toUInt32 31).toBitVec % 32).toNat = k := by
    have : ∀ j : Fin 32, (((nI j.val).toUInt32 &&& Int32.toUInt32 31).toBitVec % 32).toNat = j.val := by decide +kernel
    exact this ⟨k, hk⟩
  have h := pk_ushr x (nI k) k hs
  refine ⟨(x.toUInt32 >>> ((nI k).toUInt32 &&& Int32.toUInt32 31)).toNat, ?_, u32_nI _⟩
  have e : (x.toUInt32 >>> ((nI k).toUInt32 &&& Int32.toUInt32 31)).toNat = x.toBitVec.toNat / 2 ^ k := h
  rw [e]
  have h2 : x.toBitVec.toNat < 2 ^ 32 := x.toBitVec.isLt
  refine Nat.div_lt_of_lt_mul (Nat.lt_of_lt_of_le h2 ?_)
  calc 2 ^ 32 = 2 ^ 1 * 2 ^ 31 := by decide
    _ ≤ 2 ^ k * 2 ^ 31 := Nat.mul_le_mul_right _ (Nat.pow_le_pow_right (by decide) h1)
theorem ushr_nI {n k : Nat} (hn : n < 2 ^ 31) (hk : k < 32) : ((nI n).toUInt32 >>> ((nI k).toUInt32 &&& Int32.toUInt32 31)).toInt32 = nI (n / 2 ^ k) := by
  have hs : (((nI k).toUInt32 &&& Int32.toUInt32 31).toBitVec % 32).toNat = k := by
    have : ∀ j : Fin 32, (((nI j.val).toUInt32 &&& Int32.toUInt32 31).toBitVec % 32).toNat = j.val := by decide +kernel
    exact this ⟨k, hk⟩
  exact pk_ushrN (by omega) (nI k) k hs
theorem rem_nI {n d : Nat} (hn : n < 2 ^ 31) (h0 : 0 < d) (hd : d < 2 ^ 31) : nI n - nI n / nI d * nI d = nI (n % d) := pk_rem hn h0 hd
end LPURE3

