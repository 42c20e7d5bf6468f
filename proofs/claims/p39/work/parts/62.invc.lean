/-! roads stay well: a convoy comes to its next lead -/
section INVC
variable {f g : Fl}
theorem add_add4 (a1 a2 b1 b2 : Int32) : (a1 + a2) + (b1 + b2) = (a1 + b1) + (a2 + b2) := by ac_rfl
theorem sI_add {p q : Nat → Int32} : ∀ {n : Nat}, sI p n + sI q n = sI (fun k => p k + q k) n
  | 0 => by show (nI 0 : Int32) + nI 0 = nI 0; decide
  | n + 1 => by rw [sI_succ, sI_succ, sI_succ, add_add4, sI_add]
/-- what comes to mile 12 -/
def dlv (f : Fl) (c : Nat) (ld : Int32) (k : Nat) : Int32 := if mw ld (f (oC c 0)) k = nI 12 then f (oC c (5 + 3 * k)) else nI 0
theorem advN_4 {c : Nat} : ∀ {k : Nat}, k ≤ 4 → advN f c k 4 = f 4 + sI (dlv f c (f (oC c 2) + nI 1)) k
  | 0, _ => by
    show leadUp f c 4 = f 4 + nI 0
    rw [leadUp_out (by unfold oC; omega), add_nI0]
  | k + 1, h => by
    have ih := advN_4 (c := c) (k := k) (by omega)
    have eml : mlF (advN f c k) c k = mw (f (oC c 2) + nI 1) (f (oC c 0)) k := by
      unfold mlF
      rw [advN_ld, advN_c (Or.inr (by decide)) (by decide)]
    have e4 : stepA (advN f c k) c k 4 = advN f c k 4 := stepA_out (by omega)
    have ew : advN f c k (oC c (5 + 3 * k)) = f (oC c (5 + 3 * k)) := advN_c (Or.inr (by omega)) (by omega)
    show stepF (advN f c k) c k 4 = _
    rw [sI_succ, ← Int32.add_assoc, ← ih]
    unfold stepF dlv
    rw [eml, ew]
    by_cases z : mw (f (oC c 2) + nI 1) (f (oC c 0)) k = nI 12
    · rw [if_pos z, if_pos z, pk_us, e4]
    · rw [if_neg z, if_neg z, e4, add_nI0]
theorem mw_eq {l x k m : Nat} (hl : l < 1000) (hx : x < 1000) (hk : k < 1000) (hm : m < 1000) : mw (nI l) (nI x) k = nI m ↔ (l : Int) - k * (x + 1) = m := by
  rw [← Int32.toInt_inj, mw_int hl hx hk, nI_toInt (by omega)]
theorem mw_le {l x k m : Nat} (hl : l < 1000) (hx : x < 1000) (hk : k < 1000) (hm : m < 1000) : nI m ≤ mw (nI l) (nI x) k ↔ (m : Int) ≤ (l : Int) - k * (x + 1) := by
  rw [fa_le, mw_int hl hx hk, nI_toInt (by omega)]
/-- the lead goes on by one -/
theorem advF_One {c l x : Nat} (hO : One f) (hc : c < cnt f) (h4 : cnt f ≤ 4) (hn : ∀ d, d < cnt f → ncv f d ≤ 4) (hl : f (oC c 2) + nI 1 = nI l) (hl2 : l ≤ 24) (hx : f (oC c 0) = nI x) (hx3 : x ≤ 3) (hb : ∀ k, k < ncv f c → ¬ bk f c (nI l) k) : One (advF f c) := by
  have e2 : advF f c (oC c 2) = nI l := (advN_ld).trans hl
  have e0 : advF f c (oC c 0) = nI x := (advN_c (Or.inr (by decide)) (by decide)).trans hx
  have ed : ∀ d i, d ≠ c → i < 16 → advF f c (oC d i) = f (oC d i) := fun d i hd hi => advN_c (Or.inl hd) hi
  have ec : cnt (advF f c) = cnt f := advN_cnt
  have en : ∀ d, ncv (advF f c) d = ncv f d := fun d => advN_ncv
  have h0l : 0 ≤ nI l := nI_pos' (by omega)
  have key : ∀ d j k m, d < cnt f → d ≠ c → j < ncv f d → m < 12 → mt (f (oC d 2)) (f (oC d 0)) j = nI m → k < ncv f c → mw (nI l) (nI x) k = nI m → False := by
    intro d j k m hd hdc hj hm hmt hk hmw
    have hs : 0 ≤ f (oC d 2) := Classical.byContradiction fun q => by
      rw [mt_ns q] at hmt
      exact nI_m1 (by omega) hmt.symm
    rw [mt_st hs] at hmt
    refine hb k hk ⟨?_, d, hd, fun q => hdc ((nI_eq (by omega) (by omega)).mp q), ?_⟩
    · rw [hx, hmw]
      exact ⟨nI_pos' (by omega), nI_lt hm (by decide)⟩
    · rw [hx, hmw]
      refine Int32.not_lt.mp fun q => ?_
      have := (fstI_neg (by have := hn d hd; omega)).mp q j hj
      exact of_decide_eq_false this hmt
  intro c1 c2 k k2 m hc1 hc2 hk hk2 hm a1 a2
  rw [ec] at hc1 hc2
  rw [en] at hk hk2
  by_cases z1 : c1 = c
  · subst z1
    rw [e2, e0, mt_st h0l] at a1
    by_cases z2 : c2 = c1
    · subst z2
      rw [e2, e0, mt_st h0l] at a2
      refine ⟨rfl, ?_⟩
      have n4 := hn c2 hc2
      have b1 := (mw_eq (by omega) (by omega) (by omega) (by omega)).mp a1
      have b2 := (mw_eq (by omega) (by omega) (by omega) (by omega)).mp a2
      have e : ((k * (x + 1) : Nat) : Int) = ((k2 * (x + 1) : Nat) : Int) := by push_cast; omega
      have e' : k * (x + 1) = k2 * (x + 1) := by exact_mod_cast e
      exact Nat.eq_of_mul_eq_mul_right (by omega) e'
    · rw [ed c2 2 z2 (by decide), ed c2 0 z2 (by decide)] at a2
      exact (key c2 k2 k m hc2 z2 hk2 hm a2 hk a1).elim
  · rw [ed c1 2 z1 (by decide), ed c1 0 z1 (by decide)] at a1
    by_cases z2 : c2 = c
    · subst z2
      rw [e2, e0, mt_st h0l] at a2
      exact (key c1 k k2 m hc1 z1 hk hm a1 hk2 a2).elim
    · rw [ed c2 2 z2 (by decide), ed c2 0 z2 (by decide)] at a2
      exact hO c1 c2 k k2 m hc1 hc2 hk hk2 hm a1 a2
theorem advF_Ton {c l x : Nat} (hT : f 3 = f 4 + waitT f) (hc : c < cnt f) (h4 : cnt f ≤ 4) (hn : ncv f c ≤ 4) (hl : f (oC c 2) + nI 1 = nI l) (hl2 : l ≤ 24) (hx : f (oC c 0) = nI x) (hx3 : x ≤ 3) (hld : (f (oC c 2) = -1 ∧ l = 0) ∨ (1 ≤ l ∧ f (oC c 2) = nI (l - 1))) : advF f c 3 = advF f c 4 + waitT (advF f c) := by
  have e2 : advF f c (oC c 2) = nI l := (advN_ld).trans hl
  have ei : ∀ i, i ≠ 2 → i < 16 → advF f c (oC c i) = f (oC c i) := fun i a b => advN_c (Or.inr a) b
  have ed : ∀ d i, d ≠ c → i < 16 → advF f c (oC d i) = f (oC d i) := fun d i hd hi => advN_c (Or.inl hd) hi
  have ec : cnt (advF f c) = cnt f := advN_cnt
  have en : ncv (advF f c) c = ncv f c := advN_ncv
  have eo : ∀ i, i ≠ 4 → ¬ (8 ≤ i ∧ i < 80) → i ≠ oC c 2 → advF f c i = f i := fun i a b d => (advN_out a b).trans (leadUp_out d)
  have e4 : advF f c 4 = f 4 + sI (dlv f c (nI l)) (ncv f c) := by
    have := advN_4 (f := f) (c := c) (k := ncv f c) hn
    rw [hl] at this
    exact this
  have h0l : 0 ≤ nI l := nI_pos' (by omega)
  have tw : ∀ k, k < ncv f c → twF f c k = twF (advF f c) c k + dlv f c (nI l) k := by
    intro k hk
    unfold twF dlv
    rw [en, if_pos hk, if_pos hk, e2, ei 0 (by decide) (by decide), mt_st h0l, hx]
    have ew : (tkF (advF f c) c k).2.1 = (tkF f c k).2.1 := ei (5 + 3 * k) (by omega) (by omega)
    have ew2 : f (oC c (5 + 3 * k)) = (tkF f c k).2.1 := rfl
    rw [ew, ew2]
    have a1 := mw_le (l := l) (x := x) (k := k) (m := 12) (by omega) (by omega) (by omega) (by omega)
    have a2 := mw_eq (l := l) (x := x) (k := k) (m := 12) (by omega) (by omega) (by omega) (by omega)
    have old : nI 12 ≤ mt (f (oC c 2)) (nI x) k ↔ (13 : Int) ≤ (l : Int) - k * (x + 1) := by
      rcases hld with ⟨q, hl0⟩ | ⟨h1, q⟩
      · rw [q, mt_ns (by decide)]
        have : (0 : Int) ≤ ((k * (x + 1) : Nat) : Int) := Int.natCast_nonneg _
        push_cast at this
        exact ⟨fun z => absurd z (by decide), fun z => by omega⟩
      · rw [q, mt_st (nI_pos' (by omega)), mw_le (by omega) (by omega) (by omega) (by omega)]
        have : ((l - 1 : Nat) : Int) = (l : Int) - 1 := by omega
        rw [this]
        omega
    by_cases o : nI 12 ≤ mt (f (oC c 2)) (nI x) k
    · have b := old.mp o
      rw [if_pos o, if_pos (a1.mpr (by omega)), if_neg (fun z => by have := a2.mp z; omega)]
      decide
    · have b : ¬ (13 : Int) ≤ (l : Int) - k * (x + 1) := fun z => o (old.mpr z)
      rw [if_neg o]
      by_cases z : (l : Int) - k * (x + 1) = (12 : Nat)
      · rw [if_pos (a1.mpr (by omega)), if_pos (a2.mpr z)]
        exact (Int32.zero_add _).symm
      · rw [if_neg (fun y => z (by have := a1.mp y; omega)), if_neg (fun y => z (a2.mp y)), add_nI0]
  have w1 : wC f c = wC (advF f c) c + sI (dlv f c (nI l)) (ncv f c) := by
    unfold wC
    rw [twF_4 hn, twF_4 (by rw [en]; exact hn), en, sI_add]
    exact sI_cong tw
  have w2 : sI (wC f) (cnt f) = sI (wC (advF f c)) (cnt f) + sI (dlv f c (nI l)) (ncv f c) := sI_upd (i := c) hc (fun d hd => (wC_same (fun i hi => ed d i hd hi)).symm) w1
  have s1 : sI (fun k => advF f c (oR k)) 10 = sI (fun k => f (oR k)) 10 := sI_cong fun k hk => eo _ (by unfold oR; omega) (by unfold oR; omega) (by unfold oR oC; omega)
  rw [eo 3 (by decide) (by omega) (by unfold oC; omega), hT, e4, waitT_eq, waitT_eq, ec, s1, w2]
  generalize sI (fun k => f (oR k)) 10 = A
  generalize sI (wC (advF f c)) (cnt f) = B
  generalize sI (dlv f c (nI l)) (ncv f c) = D
  ac_rfl
theorem way_0b {c : Nat} {ld : Int32} (h : way f c ld = (nI 0, nI 0)) : ∀ k, k < ncv f c → ¬ bk f c ld k := by
  intro k hk hb
  have hlt : fa_first (fun k => cb (bk f c ld k)) (ncv f c) < ncv f c := Classical.byContradiction fun q => by
    have := fa_first_no (fun k => cb (bk f c ld k)) (ncv f c) k (by omega)
    rw [cb_t hb] at this
    cases this
  have h1 := cb_iff.mp (fa_first_yes (fun k => cb (bk f c ld k)) _ hlt)
  rw [way_7 hlt h1 (fun j hj q => by
    have := fa_first_no (fun k => cb (bk f c ld k)) (ncv f c) j hj
    rw [cb_t q] at this
    cases this)] at h
  exact absurd (Prod.mk.inj h).1 (nI_ne0 (by decide) (by decide))
theorem advF_A {c : Nat} (h : InvA f) (hc : c < cnt f) (h0 : rollO f c = (nI 0, nI 0)) : InvA (advF f c) := by
  have h44 := h.1.1.2
  obtain ⟨⟨x, x1, x2, ex⟩, -⟩ := h.1.cv hc
  obtain ⟨r1, r2, r3⟩ := roll_0 h.1 hc h0
  obtain ⟨l, hl, el⟩ := roll_lead h.1 hc r1 r2
  have hl1 : f (oC c 2) + nI 1 = nI (l + 1) := by rw [el, nI_add]
  rw [hl1] at r3
  exact ⟨advF_inv h.1 hc h0, advF_One h.2.1 hc h44 (fun d hd => (h.1.cv hd).2.2.1) hl1 (by omega) ex (by omega) (way_0b r3), advF_Ton h.2.2 hc h44 (h.1.cv hc).2.2.1 hl1 (by omega) ex (by omega) (Or.inr ⟨by omega, by rw [el]; rfl⟩)⟩
theorem startF_A {c : Nat} (h : InvA f) (hc : c < cnt f) (h0 : startO f c = (nI 0, nI 0)) : InvA (startF f c) := by
  have h44 := h.1.1.2
  obtain ⟨⟨x, x1, x2, ex⟩, -⟩ := h.1.cv hc
  obtain ⟨r1, r2, r3, r4⟩ := start_0 h.1 hc h0
  have u : ∀ i, i ≠ oC c 3 → upd f (oC c 3) (nI 1) i = f i := fun i hi => u3_out hi
  have uc : cnt (upd f (oC c 3) (nI 1)) = cnt f := u3_cnt
  have un : ∀ d, ncv (upd f (oC c 3) (nI 1)) d = ncv f d := fun d => u3_ncv
  have hl1 : upd f (oC c 3) (nI 1) (oC c 2) + nI 1 = nI 0 := by
    rw [u _ (by unfold oC; omega), r1]
    decide
  rw [show f (oC c 2) + nI 1 = nI 0 by rw [r1]; decide] at r4
  have hO : One (upd f (oC c 3) (nI 1)) := h.2.1.same uc (fun d _ => un d) (fun d _ => u _ (by unfold oC; omega)) (fun d _ => u _ (by unfold oC; omega))
  have hb : ∀ k, k < ncv (upd f (oC c 3) (nI 1)) c → ¬ bk (upd f (oC c 3) (nI 1)) c (nI 0) k := by
    intro k hk hbk
    rw [un] at hk
    refine way_0b r4 k hk ?_
    obtain ⟨b1, d, b2, b3, b4⟩ := hbk
    rw [u (oC c 0) (by unfold oC; omega)] at b1 b4
    rw [uc] at b2
    refine ⟨b1, d, b2, b3, ?_⟩
    have e : paF (upd f (oC c 3) (nI 1)) d (mw (nI 0) (f (oC c 0)) k) = paF f d (mw (nI 0) (f (oC c 0)) k) := by
      unfold paF
      rw [un, u _ (by unfold oC; omega), u _ (by unfold oC; omega)]
    rw [e] at b4
    exact b4
  refine ⟨startF_inv h.1 hc h0, advF_One hO (by rw [uc]; exact hc) (by rw [uc]; exact h44) (fun d hd => by rw [un]; exact (h.1.cv (by rw [uc] at hd; exact hd)).2.2.1) hl1 (by omega) (by rw [u _ (by unfold oC; omega)]; exact ex) (by omega) hb, advF_Ton ?_ (by rw [uc]; exact hc) (by rw [uc]; exact h44) (by rw [un]; exact (h.1.cv hc).2.2.1) hl1 (by omega) (by rw [u _ (by unfold oC; omega)]; exact ex) (by omega) (Or.inl ⟨by rw [u _ (by unfold oC; omega)]; exact r1, rfl⟩)⟩
  rw [u 3 (by unfold oC; omega), u 4 (by unfold oC; omega), h.2.2, waitT_same uc (fun k hk => u _ (by unfold oR oC; omega)) (fun d _ => un d) (fun d i _ hi _ h3 => u _ (by unfold oC; omega))]
theorem exF_A {q : Int32 × Int32 × Int32 × Int32} (h : InvA f) (hL : isL q.1) (h0 : exO f q = nI 0) : InvA (exF f q) := by
  rcases ex_ok h.1 hL h0 with ⟨j, hj, e⟩ | ⟨c, hc, h0, e⟩ | ⟨c, hc, h0, e⟩ | ⟨h0, e⟩ | ⟨c, a, b, hc, ha, hb, h0, h1, e⟩ | ⟨n, e⟩
  · rw [e]; exact drF_A h hj
  · rw [e]; exact startF_A h hc h0
  · rw [e]; exact advF_A h hc h0
  · rw [e]; exact setF_A (w := 0) h h0
  · rw [e]; exact jnF_A h hc (by omega) h0 (join_0 h1).1 (join_0 h1).2
  · rw [e]; exact passF_A h
end INVC

