/-! roads stay well: convoys come, trucks join -/
section INVB2
variable {f g : Fl}
/-- what convoy c still has to bring -/
def wC (f : Fl) (c : Nat) : Int32 := sI (twF f c) 4
theorem waitT_eq (f : Fl) : waitT f = sI (fun k => f (oR k)) 10 + sI (wC f) (cnt f) := rfl
theorem wC_same {c : Nat} (h : ∀ i, i < 16 → g (oC c i) = f (oC c i)) : wC g c = wC f c := by
  unfold wC
  refine sI_cong fun k hk => ?_
  unfold twF tkF ncv
  rw [h 0 (by decide), h 1 (by decide), h 2 (by decide), h (4 + 3 * k) (by omega), h (5 + 3 * k) (by omega), h (6 + 3 * k) (by omega)]
theorem cvF_A {x : Int32} (h : InvA f) (h4 : cnt f < 4) (hx : nI 1 ≤ x ∧ x ≤ nI 3) : InvA (cvF f x) := by
  have ec := cvF_cnt (f := f) (g := x) h4
  have eC : ∀ c i, c < cnt f → i < 16 → cvF f x (oC c i) = f (oC c i) := fun c i hc hi => cvF_out (by unfold oC; omega) (by unfold oC; omega)
  have eL : ∀ i, i ≠ 1 → i < 100 → cvF f x i = f i := fun i a b => cvF_out a (by omega)
  have en : ∀ c, c < cnt f → ncv (cvF f x) c = ncv f c := fun c hc => by unfold ncv; rw [eC c 1 hc (by decide)]
  obtain ⟨gx, hgx, rfl⟩ : ∃ j, j < 4 ∧ x = nI j := in_nI (Int32.le_trans (by decide) hx.1) (Int32.lt_of_le_of_lt hx.2 (by decide)) (by decide)
  have hg1 : 1 ≤ gx := by
    rcases Nat.lt_or_ge gx 1 with q | q
    · have : gx = 0 := by omega
      subst this
      exact absurd hx.1 (by decide)
    · exact q
  have hB : InvB (cvF f (nI gx)) := by
    refine InvB.chg h.1 ⟨by rw [ec, cvF_1], by omega⟩ (by rw [eL 5 (by decide) (by decide)]; exact h.1.2.1) (by rw [eL 6 (by decide) (by decide)]; exact h.1.2.2.1) (fun i h1 h2 => eL i (by omega) (by omega)) (fun j hj => by rw [eL _ (by unfold oR; omega) (by unfold oR; omega), eL _ (by unfold oR; omega) (by unfold oR; omega)]; exact h.1.2.2.2.2.1 j hj) (fun c hc => ?_)
    rw [ec] at hc
    by_cases z : c < cnt f
    · exact (h.1.cv z).same (fun i hi => eC c i z hi)
    · have z : c = cnt f := by omega
      subst z
      unfold iC
      rw [cvF_ncv, cvF_in (by decide), cvF_in (by decide), cvF_in (by decide), cvF_in (by decide)]
      exact ⟨⟨gx, hg1, by omega, rfl⟩, rfl, Nat.zero_le 4, Or.inl ⟨rfl, rfl⟩, fun k hk => absurd hk (Nat.not_lt_zero k)⟩
  refine ⟨hB, ?_, ?_⟩
  · intro c c2 k k2 m hc hc2 hk hk2 hm e1 e2
    rw [ec] at hc hc2
    have a1 : c < cnt f := by
      rcases Nat.lt_or_ge c (cnt f) with q | q
      · exact q
      · rw [show c = cnt f by omega, cvF_ncv] at hk
        exact absurd hk (Nat.not_lt_zero k)
    have a2 : c2 < cnt f := by
      rcases Nat.lt_or_ge c2 (cnt f) with q | q
      · exact q
      · rw [show c2 = cnt f by omega, cvF_ncv] at hk2
        exact absurd hk2 (Nat.not_lt_zero k2)
    rw [en c a1] at hk
    rw [en c2 a2] at hk2
    rw [eC c 2 a1 (by decide), eC c 0 a1 (by decide)] at e1
    rw [eC c2 2 a2 (by decide), eC c2 0 a2 (by decide)] at e2
    exact h.2.1 c c2 k k2 m a1 a2 hk hk2 hm e1 e2
  · rw [eL 3 (by decide) (by decide), eL 4 (by decide) (by decide), h.2.2, waitT_eq, waitT_eq, ec, sI_succ (wC (cvF f (nI gx))) (cnt f)]
    have e1 : sI (fun k => cvF f (nI gx) (oR k)) 10 = sI (fun k => f (oR k)) 10 := sI_cong fun k hk => eL _ (by unfold oR; omega) (by unfold oR; omega)
    have e2 : sI (wC (cvF f (nI gx))) (cnt f) = sI (wC f) (cnt f) := sI_cong fun c hc => wC_same (fun i hi => eC c i hc hi)
    have e3 : wC (cvF f (nI gx)) (cnt f) = nI 0 := by
      unfold wC
      have : sI (twF (cvF f (nI gx)) (cnt f)) 4 = sI (fun _ => nI 0) 4 := sI_cong fun k hk => by
        unfold twF
        rw [cvF_ncv, if_neg (Nat.not_lt_zero k)]
      rw [this]
      decide
    rw [e1, e2, e3, add_nI0]
theorem iC.ns {c : Nat} (h : iC f c) (h0 : ¬ 0 ≤ f (oC c 2)) : f (oC c 2) = -1 := by
  obtain ⟨-, -, -, st, -⟩ := h
  rcases st with ⟨a, b⟩ | ⟨a, -, l, hl, b⟩
  · exact b
  · rw [b] at h0
    exact absurd (nI_pos' (by omega)) h0
theorem jnF_A {c k : Nat} (h : InvA f) (hc : c < cnt f) (hk : k < 10) (h0 : ¬ f (oR k) = 0) (h1 : ¬ 0 ≤ f (oC c 2)) (hn : ncv f c < 4) : InvA (jnF f c k) := by
  have h44 := h.1.1.2
  have i1 := (h.1.cv hc).2.1
  have ec := jnF_cnt (f := f) (c := c) (k := k) hn
  have e2 : jnF f c k (oC c 2) = f (oC c 2) := jnF_c hk (by decide) (by omega) (by omega) (by omega)
  have e0 : jnF f c k (oC c 0) = f (oC c 0) := jnF_c hk (by decide) (by omega) (by omega) (by omega)
  have eD : ∀ d i, d ≠ c → i < 16 → jnF f c k (oC d i) = f (oC d i) := fun d i hd hi => jnF_d hn hk hd hi
  have enD : ∀ d, d ≠ c → ncv (jnF f c k) d = ncv f d := fun d hd => by unfold ncv; rw [eD d 1 hd (by decide)]
  refine ⟨jnF_inv h.1 hc hk h0 h1 hn, ?_, ?_⟩
  · intro d d2 j j2 m hd hd2 hj hj2 hm a1 a2
    rw [ec] at hd hd2
    have n1 : d ≠ c := fun q => by
      rw [q, e2, e0, mt_ns h1] at a1
      exact nI_m1 (by omega) a1.symm
    have n2 : d2 ≠ c := fun q => by
      rw [q, e2, e0, mt_ns h1] at a2
      exact nI_m1 (by omega) a2.symm
    rw [enD d n1] at hj
    rw [enD d2 n2] at hj2
    rw [eD d 2 n1 (by decide), eD d 0 n1 (by decide)] at a1
    rw [eD d2 2 n2 (by decide), eD d2 0 n2 (by decide)] at a2
    exact h.2.1 d d2 j j2 m hd hd2 hj hj2 hm a1 a2
  · have eL : ∀ i, i < 80 → jnF f c k i = f i := fun i hi => jnF_out hn (by unfold oR; omega) (by unfold oR; omega) (by omega)
    have er : jnF f c k (oR k) = nI 0 := by
      unfold jnF
      rw [pk_un (by omega), pk_us]
    have ero : ∀ j, j ≠ k → j < 10 → jnF f c k (oR j) = f (oR j) := fun j a b => jnF_out hn (by unfold oR; omega) (by unfold oR; omega) (by unfold oR; omega)
    have s1 : sI (fun j => f (oR j)) 10 = sI (fun j => if j = k then nI 0 else f (oR j)) 10 + f (oR k) := sI_upd (i := k) hk (fun j hj => by rw [if_neg hj]) (by rw [if_pos rfl]; exact (Int32.zero_add _).symm)
    have s2 : sI (fun j => jnF f c k (oR j)) 10 = sI (fun j => if j = k then nI 0 else f (oR j)) 10 := sI_cong fun j hj => by
      by_cases z : j = k
      · rw [if_pos z, z, er]
      · rw [if_neg z, ero j z hj]
    have t1 : ∀ j, j ≠ ncv f c → twF (jnF f c k) c j = twF f c j := fun j hj => by
      unfold twF
      rw [jnF_ncv hk i1 hn, e2, e0]
      by_cases z : j < ncv f c
      · rw [if_pos (by omega), if_pos z]
        have : tkF (jnF f c k) c j = tkF f c j := by
          unfold tkF
          rw [jnF_c hk (by omega) (by omega) (by omega) (by omega), jnF_c hk (by omega) (by omega) (by omega) (by omega), jnF_c hk (by omega) (by omega) (by omega) (by omega)]
        rw [this]
      · rw [if_neg (by omega), if_neg z]
    have t2 : twF (jnF f c k) c (ncv f c) = twF f c (ncv f c) + f (oR k) := by
      unfold twF
      rw [jnF_ncv hk i1 hn, e2, e0, if_pos (show ncv f c < ncv f c + 1 by omega), if_neg (show ¬ ncv f c < ncv f c by omega), mt_ns h1, if_neg (show ¬ nI 12 ≤ (-1 : Int32) by decide)]
      have : (tkF (jnF f c k) c (ncv f c)).2.1 = f (oR k) := by
        show jnF f c k (oC c (5 + 3 * ncv f c)) = _
        unfold jnF
        rw [pk_un (by unfold oC oR; omega), pk_un (by unfold oC oR; omega)]
        unfold jn1
        rw [pk_un (by unfold oC; omega), pk_un (by unfold oC; omega), pk_us]
      rw [this]
      exact (Int32.zero_add _).symm
    have w1 : wC (jnF f c k) c = wC f c + f (oR k) := sI_upd (i := ncv f c) hn t1 t2
    have w2 : sI (wC (jnF f c k)) (cnt f) = sI (wC f) (cnt f) + f (oR k) := by
      have : sI (wC (jnF f c k)) (cnt f) = sI (fun d => if d = c then wC f c + f (oR k) else wC f d) (cnt f) := sI_cong fun d _ => by
        by_cases z : d = c
        · rw [if_pos z, z, w1]
        · rw [if_neg z, wC_same (fun i hi => eD d i z hi)]
      rw [this]
      exact sI_upd (i := c) hc (fun d hd => by rw [if_neg hd]) (by rw [if_pos rfl])
    rw [eL 3 (by decide), eL 4 (by decide), h.2.2, waitT_eq, waitT_eq, ec, s2, w2, s1]
    generalize sI (fun j => if j = k then nI 0 else f (oR j)) 10 = A
    generalize sI (wC f) (cnt f) = B
    rw [Int32.add_assoc A (f (oR k)) B, Int32.add_comm (f (oR k)) B]
end INVB2

