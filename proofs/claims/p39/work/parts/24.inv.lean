/-! the invariant behind each change -/
section INVS
/-- a reason with its detail, or none -/
def codeOk (z : Int32 × Int32) : Prop := z = (nI 0, nI 0) ∨ ∃ a b, 1 ≤ a ∧ a ≤ 8 ∧ b < 16 ∧ z = (nI a, nI b)
theorem enc_nI (a b : Nat) : enc (nI a, nI b) = nI (16 * a + b) := by
  show nI a * nI 16 + nI b = _
  rw [pk_mul, nI_add, Nat.mul_comm]
theorem enc_0 {z : Int32 × Int32} (h : codeOk z) : enc z = 0 ↔ z = (nI 0, nI 0) := by
  rcases h with rfl | ⟨a, b, h1, h2, h3, rfl⟩
  · exact ⟨fun _ => rfl, fun _ => enc0⟩
  · rw [enc_nI]
    constructor
    · intro q
      exact absurd q (nI_ne0 (by omega) (by omega))
    · intro q
      have := (nI_eq (a := a) (b := 0) (by omega) (by decide)).mp (Prod.mk.inj q).1
      omega
theorem enc_pos {z : Int32 × Int32} (h : codeOk z) (h0 : z ≠ (nI 0, nI 0)) : 0 < enc z ∧ ¬ enc z = 0 := by
  rcases h with rfl | ⟨a, b, h1, h2, h3, rfl⟩
  · exact absurd rfl h0
  · rw [enc_nI]
    exact ⟨Int32.not_le.mp (nI_nle (by omega) (by omega)), nI_ne0 (by omega) (by omega)⟩
theorem isM_nI {x : Int32} (h : isM x) : ∃ j, j < 12 ∧ x = nI j := in_nI h.1 h.2 (by decide)
theorem way_code (f : Fl) (c : Nat) (ld : Int32) : codeOk (way f c ld) := by
  unfold way
  by_cases q : fa_first (fun k => cb (bk f c ld k)) (ncv f c) < ncv f c
  · rw [if_pos q]
    have h := cb_iff.mp (fa_first_yes (fun k => cb (bk f c ld k)) _ q)
    obtain ⟨j, hj, ej⟩ := isM_nI h.1
    rw [ej]
    exact Or.inr ⟨7, j, by decide, by decide, by omega, rfl⟩
  · rw [if_neg q]
    by_cases q2 : fa_first (fun k => cb (wk f c ld k)) (ncv f c) < ncv f c
    · rw [if_pos q2]
      have h := cb_iff.mp (fa_first_yes (fun k => cb (wk f c ld k)) _ q2)
      obtain ⟨j, hj, ej⟩ := isM_nI h.1
      rw [ej]
      exact Or.inr ⟨8, j, by decide, by decide, by omega, rfl⟩
    · rw [if_neg q2]
      exact Or.inl rfl
theorem roll_code (f : Fl) {c : Nat} (hc : c < 4) : codeOk (rollO f c) := by
  unfold rollO
  split
  · exact Or.inr ⟨4, c, by decide, by decide, by omega, rfl⟩
  · split
    · exact Or.inr ⟨6, c, by decide, by decide, by omega, rfl⟩
    · exact way_code _ _ _
theorem start_code (f : Fl) {c : Nat} (hc : c < 4) : codeOk (startO f c) := by
  unfold startO
  split
  · exact Or.inr ⟨4, c, by decide, by decide, by omega, rfl⟩
  · split
    · exact Or.inr ⟨5, c, by decide, by decide, by omega, rfl⟩
    · exact way_code _ _ _
theorem join_code (f : Fl) {c : Nat} (hc : c < 4) : codeOk (joinO f c) := by
  unfold joinO
  split
  · exact Or.inr ⟨4, c, by decide, by decide, by omega, rfl⟩
  · split
    · exact Or.inl rfl
    · exact Or.inr ⟨1, 4, by decide, by decide, by decide, rfl⟩
/-- what holds of convoy c -/
def iC (f : Fl) (c : Nat) : Prop := (∃ g, 1 ≤ g ∧ g ≤ 3 ∧ f (oC c 0) = nI g) ∧ f (oC c 1) = nI (ncv f c) ∧ ncv f c ≤ 4 ∧ ((f (oC c 3) = nI 0 ∧ f (oC c 2) = -1) ∨ (f (oC c 3) = nI 1 ∧ 1 ≤ ncv f c ∧ ∃ l, l ≤ 24 ∧ f (oC c 2) = nI l)) ∧ ∀ k, k < ncv f c → okT (tkF f c k)
theorem InvB.cv {f : Fl} (h : InvB f) {c : Nat} (hc : c < cnt f) : iC f c := h.2.2.2.2.2 c hc
theorem iC.same {f f' : Fl} {c : Nat} (h : iC f c) (hf : ∀ i, i < 16 → f' (oC c i) = f (oC c i)) : iC f' c := by
  have e1 : ncv f' c = ncv f c := by unfold ncv; rw [hf 1 (by decide)]
  obtain ⟨h1, h2, h3, h4, h5⟩ := h
  unfold iC
  rw [e1, hf 0 (by decide), hf 1 (by decide), hf 2 (by decide), hf 3 (by decide)]
  refine ⟨h1, h2, h3, h4, fun k hk => ?_⟩
  have e2 : tkF f' c k = tkF f c k := by
    unfold tkF
    rw [hf (4 + 3 * k) (by omega), hf (5 + 3 * k) (by omega), hf (6 + 3 * k) (by omega)]
  rw [e2]
  exact h5 k hk
/-- a change of the low numbers (settings within their ranges), one row's place, convoys -/
theorem InvB.chg {f f' : Fl} (h : InvB f) (h1 : f' 1 = nI (cnt f') ∧ cnt f' ≤ 4) (h5 : -40 ≤ f' 5 ∧ f' 5 ≤ nI 10) (h6 : ∃ l, l ≤ 100 ∧ f' 6 = nI l) (hM : ∀ k, 8 ≤ k → k < 80 → f' k = f k) (hR : ∀ k, k < 10 → f' (oR k) = 0 ∨ okT (nI (k / 5), f' (oR k), f' (oR k + 1))) (hC : ∀ c, c < cnt f' → iC f' c) : InvB f' :=
  ⟨h1, h5, h6, fun j hj => by
    rw [hM (oM j 0) (by unfold oM; omega) (by unfold oM; omega), hM (oM j 3) (by unfold oM; omega) (by unfold oM; omega), hM (oM j 1) (by unfold oM; omega) (by unfold oM; omega), hM (oM j 2) (by unfold oM; omega) (by unfold oM; omega)]
    exact h.2.2.2.1 j hj, hR, hC⟩
theorem InvB.conv {f f' : Fl} {c : Nat} (h : InvB f) (hc : c < 4) (hf : ∀ k, ¬ (100 + 16 * c ≤ k ∧ k < 116 + 16 * c) → f' k = f k) (hC : c < cnt f → iC f' c) : InvB f' := by
  have e1 : cnt f' = cnt f := by unfold cnt; rw [hf 1 (by omega)]
  refine InvB.chg h (by rw [e1, hf 1 (by omega)]; exact h.1) (by rw [hf 5 (by omega)]; exact h.2.1) (by rw [hf 6 (by omega)]; exact h.2.2.1) (fun k _ hk => hf k (by omega)) (fun k hk => by rw [hf _ (by unfold oR; omega), hf _ (by unfold oR; omega)]; exact h.2.2.2.2.1 k hk) (fun d hd => ?_)
  rw [e1] at hd
  have := h.1.2
  by_cases z : d = c
  · subst z; exact hC hd
  · exact (h.cv hd).same (fun i hi => hf _ (by unfold oC; omega))
theorem stepF_inv {h : Fl} {c k : Nat} (hI : InvB h) (hc : c < cnt h) (hk : k < ncv h c) : InvB (stepF h c k) := by
  obtain ⟨n, hn, en⟩ := stn_nI ((hI.cv hc).2.2.2.2 k hk)
  have h1 : InvB (stepA h c k) := by
    unfold stepA
    by_cases q : isM (mlF h c k)
    · obtain ⟨j, hj, ej⟩ := isM_nI q
      rw [if_pos q, ej, nI_clamp (by omega), en]
      exact carF_inv hI hj (by omega)
    · rw [if_neg q]; exact hI
  unfold stepF
  split
  · exact InvB.low h1 (Or.inr (Or.inr (Or.inr rfl)))
  · exact h1
theorem advN_inv {f : Fl} {c : Nat} (h0 : InvB (leadUp f c)) (hc : c < cnt f) : ∀ {k : Nat}, k ≤ ncv f c → InvB (advN f c k)
  | 0, _ => h0
  | k + 1, hk => stepF_inv (advN_inv h0 hc (k := k) (by omega)) (by rw [advN_cnt]; exact hc) (by rw [advN_ncv]; omega)
/-- convoy c starts -/
def startF (f : Fl) (c : Nat) : Fl := advF (upd f (oC c 3) (nI 1)) c
theorem u3_out {f : Fl} {c i : Nat} {x : Int32} (h : i ≠ oC c 3) : upd f (oC c 3) x i = f i := pk_un h
theorem u3_cnt {f : Fl} {c : Nat} {x : Int32} : cnt (upd f (oC c 3) x) = cnt f := by unfold cnt; rw [u3_out (by unfold oC; omega)]
theorem u3_ncv {f : Fl} {c d : Nat} {x : Int32} : ncv (upd f (oC c 3) x) d = ncv f d := by unfold ncv; rw [u3_out (by unfold oC; omega)]
theorem mw_last {l g k : Nat} (hg : g ≤ 3) (hk : k < 4) (hl : 24 ≤ l) (hl2 : l < 1000) : nI 12 ≤ mw (nI l) (nI g) k := by
  unfold mw
  have : k * (g + 1) ≤ 3 * 4 := Nat.mul_le_mul (by omega) (by omega)
  rw [nI_add, pk_mul, pk_sub (by omega), nI_leI (by decide) (by omega)]
  omega
theorem roll_lead {f : Fl} (hI : InvB f) {c : Nat} (hc : c < cnt f) (h0 : 0 ≤ f (oC c 2)) (hd : ¬ dnF f c) : ∃ l, l < 24 ∧ f (oC c 2) = nI l := by
  obtain ⟨⟨g, g1, g2, eg⟩, -, h3, st, -⟩ := hI.cv hc
  rcases st with st | ⟨-, -, l, hl, el⟩
  · rw [st.2] at h0
    exact absurd h0 (by decide)
  · rcases Nat.lt_or_ge l 24 with q | q
    · exact ⟨l, q, el⟩
    · refine absurd ⟨h0, fb_ct_all.mpr (fun k hk => decide_eq_true ?_)⟩ hd
      unfold mt
      rw [if_pos h0, el, eg]
      exact mw_last g2 (by omega) q (by omega)
theorem leadUp_inv {f : Fl} (hI : InvB f) {c l : Nat} (hc : c < cnt f) (h0 : f (oC c 2) = nI l) (hl : l < 24) : InvB (leadUp f c) := by
  have := hI.1.2
  refine InvB.conv (c := c) hI (by omega) (fun k hk => leadUp_out (by unfold oC; omega)) (fun _ => ?_)
  have e : ∀ i, i < 16 → i ≠ 2 → leadUp f c (oC c i) = f (oC c i) := fun i hi h2 => leadUp_out (by unfold oC; omega)
  have en : ncv (leadUp f c) c = ncv f c := by unfold ncv; rw [e 1 (by decide) (by decide)]
  have el : leadUp f c (oC c 2) = nI (l + 1) := by unfold leadUp; rw [pk_us, h0, nI_add]
  obtain ⟨h1, h2, h3, st, h5⟩ := hI.cv hc
  unfold iC
  rw [en, e 0 (by decide) (by decide), e 1 (by decide) (by decide), e 3 (by decide) (by decide), el]
  refine ⟨h1, h2, h3, ?_, fun k hk => ?_⟩
  · rcases st with st | st
    · rw [st.2] at h0
      exact absurd (nI_pos' (n := l) (by omega)) (by rw [← h0]; decide)
    · exact Or.inr ⟨st.1, st.2.1, l + 1, by omega, rfl⟩
  · have e2 : tkF (leadUp f c) c k = tkF f c k := by
      unfold tkF
      rw [e (4 + 3 * k) (by omega) (by omega), e (5 + 3 * k) (by omega) (by omega), e (6 + 3 * k) (by omega) (by omega)]
    rw [e2]
    exact h5 k hk
theorem startUp_inv {f : Fl} (hI : InvB f) {c : Nat} (hc : c < cnt f) (h0 : f (oC c 2) = -1) (hn : 1 ≤ ncv f c) : InvB (leadUp (upd f (oC c 3) (nI 1)) c) := by
  have := hI.1.2
  have e : ∀ i, i ≠ oC c 2 → i ≠ oC c 3 → leadUp (upd f (oC c 3) (nI 1)) c i = f i := fun i h2 h3 => (leadUp_out h2).trans (u3_out h3)
  refine InvB.conv (c := c) hI (by omega) (fun k hk => e k (by unfold oC; omega) (by unfold oC; omega)) (fun _ => ?_)
  have e' : ∀ i, i < 16 → i ≠ 2 → i ≠ 3 → leadUp (upd f (oC c 3) (nI 1)) c (oC c i) = f (oC c i) := fun i hi h2 h3 => e _ (by unfold oC; omega) (by unfold oC; omega)
  have en : ncv (leadUp (upd f (oC c 3) (nI 1)) c) c = ncv f c := by unfold ncv; rw [e' 1 (by decide) (by decide) (by decide)]
  have el : leadUp (upd f (oC c 3) (nI 1)) c (oC c 2) = nI 0 := by
    unfold leadUp
    rw [pk_us, u3_out (by unfold oC; omega), h0]
    decide
  have e3 : leadUp (upd f (oC c 3) (nI 1)) c (oC c 3) = nI 1 := by
    rw [leadUp_out (by unfold oC; omega)]
    exact pk_us
  obtain ⟨h1, h2, h3, st, h5⟩ := hI.cv hc
  unfold iC
  rw [en, e' 0 (by decide) (by decide) (by decide), e' 1 (by decide) (by decide) (by decide), e3, el]
  refine ⟨h1, h2, h3, Or.inr ⟨rfl, hn, 0, by decide, rfl⟩, fun k hk => ?_⟩
  have e2 : tkF (leadUp (upd f (oC c 3) (nI 1)) c) c k = tkF f c k := by
    unfold tkF
    rw [e' (4 + 3 * k) (by omega) (by omega) (by omega), e' (5 + 3 * k) (by omega) (by omega) (by omega), e' (6 + 3 * k) (by omega) (by omega) (by omega)]
  rw [e2]
  exact h5 k hk
/-- what lets a convoy roll, start -/
theorem roll_0 {f : Fl} (hI : InvB f) {c : Nat} (hc : c < cnt f) (h : rollO f c = (nI 0, nI 0)) : 0 ≤ f (oC c 2) ∧ ¬ dnF f c ∧ way f c (f (oC c 2) + nI 1) = (nI 0, nI 0) := by
  unfold rollO at h
  by_cases q : 0 ≤ f (oC c 2)
  · rw [if_neg (fun z => z q)] at h
    by_cases q2 : dnF f c
    · rw [if_pos q2] at h
      exact absurd (Prod.mk.inj h).1 (by decide)
    · rw [if_neg q2] at h
      exact ⟨q, q2, h⟩
  · rw [if_pos q] at h
    exact absurd (Prod.mk.inj h).1 (by decide)
theorem start_0 {f : Fl} (hI : InvB f) {c : Nat} (hc : c < cnt f) (h : startO f c = (nI 0, nI 0)) : f (oC c 2) = -1 ∧ f (oC c 3) = nI 0 ∧ 1 ≤ ncv f c ∧ way f c (f (oC c 2) + nI 1) = (nI 0, nI 0) := by
  unfold startO at h
  by_cases q : 0 ≤ f (oC c 2)
  · rw [if_pos q] at h
    exact absurd (Prod.mk.inj h).1 (by decide)
  · rw [if_neg q] at h
    by_cases q2 : ncv f c = 0
    · rw [if_pos q2] at h
      exact absurd (Prod.mk.inj h).1 (by decide)
    · rw [if_neg q2] at h
      obtain ⟨-, -, -, st, -⟩ := hI.cv hc
      rcases st with st | ⟨-, -, l, hl, el⟩
      · exact ⟨st.2, st.1, by omega, h⟩
      · rw [el] at q
        exact absurd (nI_pos' (by omega)) q
theorem advF_inv {f : Fl} (hI : InvB f) {c : Nat} (hc : c < cnt f) (h : rollO f c = (nI 0, nI 0)) : InvB (advF f c) := by
  obtain ⟨h0, h1, -⟩ := roll_0 hI hc h
  obtain ⟨l, hl, el⟩ := roll_lead hI hc h0 h1
  exact advN_inv (leadUp_inv hI hc el hl) hc (Nat.le_refl _)
theorem startF_inv {f : Fl} (hI : InvB f) {c : Nat} (hc : c < cnt f) (h : startO f c = (nI 0, nI 0)) : InvB (startF f c) := by
  obtain ⟨h0, -, h1, -⟩ := start_0 hI hc h
  exact advN_inv (startUp_inv hI hc h0 h1) (by rw [u3_cnt]; exact hc) (Nat.le_refl _)
theorem setF_inv {f : Fl} (hI : InvB f) {w v : Int32} (h : isSV w v) : InvB (upd f (5 + w.toNatClampNeg) v) := by
  obtain ⟨hw, h1, h2⟩ := h
  obtain ⟨k, hk, rfl⟩ := in_nI hw.1 hw.2 (by decide)
  rw [nI_clamp (by omega)] at *
  have hf : ∀ j, j ≠ 5 + k → upd f (5 + k) v j = f j := fun j hj => pk_un hj
  have e1 : cnt (upd f (5 + k) v) = cnt f := by unfold cnt; rw [hf 1 (by omega)]
  refine InvB.chg hI (by rw [e1, hf 1 (by omega)]; exact hI.1) ?_ ?_ (fun j _ _ => hf j (by omega)) (fun j hj => by rw [hf _ (by unfold oR; omega), hf _ (by unfold oR; omega)]; exact hI.2.2.2.2.1 j hj) (fun c hc => (hI.cv (by rw [e1] at hc; exact hc)).same (fun i hi => hf _ (by unfold oC; omega)))
  · rcases (show k = 0 ∨ k = 1 ∨ k = 2 by omega) with rfl | rfl | rfl
    · rw [show (5 + 0) = 5 from rfl, pk_us]
      exact ⟨h1, h2⟩
    · rw [hf 5 (by decide)]; exact hI.2.1
    · rw [hf 5 (by decide)]; exact hI.2.1
  · rcases (show k = 0 ∨ k = 1 ∨ k = 2 by omega) with rfl | rfl | rfl
    · rw [hf 6 (by decide)]; exact hI.2.2.1
    · rw [show (5 + 1) = 6 from rfl, pk_us]
      obtain ⟨l, hl, el⟩ := nI_of2 (M := 100) (n := 100) (by decide) (Int32.not_lt.mpr h1) h2
      exact ⟨l, hl, el⟩
    · rw [hf 6 (by decide)]; exact hI.2.2.1
theorem jnF_inv {f : Fl} (hI : InvB f) {c k : Nat} (hc : c < cnt f) (hk : k < 10) (h0 : ¬ f (oR k) = 0) (h1 : ¬ 0 ≤ f (oC c 2)) (hn : ncv f c < 4) : InvB (jnF f c k) := by
  have h4 := hI.1.2
  obtain ⟨g1, g2, g3, st, g5⟩ := hI.cv hc
  have hI2 : InvB (jn1 f c k) := by
    refine InvB.conv (c := c) hI (by omega) (fun i hi => jn1_out hn hi) (fun _ => ?_)
    have e : ∀ i, i < 16 → i ≠ 1 → i ≠ 4 + 3 * ncv f c → i ≠ 5 + 3 * ncv f c → i ≠ 6 + 3 * ncv f c → jn1 f c k (oC c i) = f (oC c i) := fun i _ n1 n4 n5 n6 => by
      have w1 : oC c i ≠ oC c 1 := by unfold oC; omega
      have w4 : oC c i ≠ oC c (4 + 3 * ncv f c) := by unfold oC; omega
      have w5 : oC c i ≠ oC c (5 + 3 * ncv f c) := by unfold oC; omega
      have w6 : oC c i ≠ oC c (6 + 3 * ncv f c) := by unfold oC; omega
      simp only [jn1, upd, w1, w4, w5, w6, if_false]
    have e1 : jn1 f c k (oC c 1) = nI (ncv f c + 1) := by
      unfold jn1
      rw [pk_us, g2, nI_add]
    have en : ncv (jn1 f c k) c = ncv f c + 1 := by
      unfold ncv
      rw [e1, nI_clamp (by omega)]
      rfl
    unfold iC
    rw [en, e 0 (by decide) (by decide) (by omega) (by omega) (by omega), e1, e 2 (by decide) (by decide) (by omega) (by omega) (by omega), e 3 (by decide) (by decide) (by omega) (by omega) (by omega)]
    refine ⟨g1, rfl, by omega, ?_, fun j hj => ?_⟩
    · rcases st with st | ⟨-, -, l, hl, el⟩
      · exact Or.inl st
      · rw [el] at h1
        exact absurd (nI_pos' (by omega)) h1
    · by_cases z : j = ncv f c
      · subst z
        have h45 : oC c (4 + 3 * ncv f c) ≠ oC c (5 + 3 * ncv f c) := by unfold oC; omega
        have h46 : oC c (4 + 3 * ncv f c) ≠ oC c (6 + 3 * ncv f c) := by unfold oC; omega
        have h41 : oC c (4 + 3 * ncv f c) ≠ oC c 1 := by unfold oC; omega
        have h56 : oC c (5 + 3 * ncv f c) ≠ oC c (6 + 3 * ncv f c) := by unfold oC; omega
        have h51 : oC c (5 + 3 * ncv f c) ≠ oC c 1 := by unfold oC; omega
        have h61 : oC c (6 + 3 * ncv f c) ≠ oC c 1 := by unfold oC; omega
        unfold tkF
        simp only [jn1, upd, h45, h46, h41, h56, h51, h61, if_false, if_true]
        rcases hI.2.2.2.2.1 k hk with q | q
        · exact absurd q h0
        · exact q
      · have : tkF (jn1 f c k) c j = tkF f c j := by
          unfold tkF
          rw [e (4 + 3 * j) (by omega) (by omega) (by omega) (by omega) (by omega), e (5 + 3 * j) (by omega) (by omega) (by omega) (by omega) (by omega), e (6 + 3 * j) (by omega) (by omega) (by omega) (by omega) (by omega)]
        rw [this]
        exact g5 j (by omega)
  have hf : ∀ i, i ≠ oR k → i ≠ oR k + 1 → jnF f c k i = jn1 f c k i := fun i q1 q2 => by
    unfold jnF
    rw [pk_un q2, pk_un q1]
  have e1 : cnt (jnF f c k) = cnt (jn1 f c k) := by unfold cnt; rw [hf 1 (by unfold oR; omega) (by unfold oR; omega)]
  refine InvB.chg hI2 (by rw [e1, hf 1 (by unfold oR; omega) (by unfold oR; omega)]; exact hI2.1) (by rw [hf 5 (by unfold oR; omega) (by unfold oR; omega)]; exact hI2.2.1) (by rw [hf 6 (by unfold oR; omega) (by unfold oR; omega)]; exact hI2.2.2.1) (fun j _ hj => hf j (by unfold oR; omega) (by unfold oR; omega)) (fun j hj => ?_) (fun d hd => (hI2.cv (by rw [e1] at hd; exact hd)).same (fun i hi => hf _ (by unfold oR oC; omega) (by unfold oR oC; omega)))
  by_cases z : j = k
  · subst z
    left
    unfold jnF
    rw [pk_un (by omega), pk_us]
    rfl
  · rw [hf (oR j) (by unfold oR; omega) (by unfold oR; omega), hf (oR j + 1) (by unfold oR; omega) (by unfold oR; omega)]
    exact hI2.2.2.2.2.1 j hj
end INVS

