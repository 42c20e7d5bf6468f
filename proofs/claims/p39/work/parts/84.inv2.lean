/-! what the law's run keeps: days, weights -/
section LPURE4
variable {f g : Fl} {S : St} {N c k j : Nat}
def SmD (f g : Fl) : Prop := g 0 = f 0 ∧ g 7 = f 7 ∧ ∀ j, j < 12 → g (oM j 4) = f (oM j 4)
theorem InvD.sm (h : InvD N f) (hs : SmD f g) : InvD N g := by
  obtain ⟨⟨d, hd, e0, hm⟩, l, hl, e7⟩ := h
  refine ⟨⟨d, hd, hs.1.trans e0, fun j hj => ?_⟩, l, hl, hs.2.1.trans e7⟩
  rw [hs.2.2 j hj]
  exact hm j hj
theorem SmD.tr {h : Fl} (a : SmD f g) (b : SmD g h) : SmD f h := ⟨b.1.trans a.1, b.2.1.trans a.2.1, fun j hj => (b.2.2 j hj).trans (a.2.2 j hj)⟩
theorem carF_4 {x : Int32} {i : Nat} : carF f j x (oM i 4) = f (oM i 4) := by
  unfold carF
  split
  · rw [pk_un (by unfold oM; omega), pk_un (by unfold oM; omega), pk_un (by unfold oM; omega)]
  · rw [pk_un (by unfold oM; omega), pk_un (by unfold oM; omega)]
theorem stepA_4 {i : Nat} : stepA f c k (oM i 4) = f (oM i 4) := by
  unfold stepA
  split
  · exact carF_4
  · rfl
theorem stepF_4 {i : Nat} : stepF f c k (oM i 4) = f (oM i 4) := by
  unfold stepF
  split
  · rw [pk_un (by unfold oM; omega)]
    exact stepA_4
  · exact stepA_4
theorem advN_M4 {i : Nat} (hi : i < 12) : ∀ n, advN f c n (oM i 4) = f (oM i 4)
  | 0 => by
    show leadUp f c (oM i 4) = _
    exact pk_un (by unfold oM oC; omega)
  | n + 1 => by
    show stepF (advN f c n) c n (oM i 4) = _
    rw [stepF_4]
    exact advN_M4 hi n
theorem sd_adv : SmD f (advF f c) := ⟨(advN_out (by decide) (by omega)).trans (pk_un (by unfold oC; omega)), (advN_out (by decide) (by omega)).trans (pk_un (by unfold oC; omega)), fun j hj => advN_M4 hj _⟩
theorem sd_u3 {y : Int32} : SmD f (upd f (oC c 3) y) := ⟨pk_un (by unfold oC; omega), pk_un (by unfold oC; omega), fun j hj => pk_un (by unfold oC oM; omega)⟩
theorem sd_start : SmD f (startF f c) := sd_u3.tr sd_adv
theorem sd_tr {w ax : Int32} : SmD f (trF f k w ax) := ⟨trF_out (by unfold oR; omega) (by unfold oR; omega) (by decide), trF_out (by unfold oR; omega) (by unfold oR; omega) (by decide), fun j hj => trF_out (by unfold oR oM; omega) (by unfold oR oM; omega) (by unfold oM; omega)⟩
theorem sd_cv {x : Int32} : SmD f (cvF f x) := ⟨cvF_out (by decide) (by omega), cvF_out (by decide) (by omega), fun j hj => cvF_out (by unfold oM; omega) (by unfold oM; omega)⟩
theorem jnF_low {i : Nat} (hi : i < 80) : jnF f c k i = f i := by
  unfold jnF jn1
  rw [pk_un (by unfold oR; omega), pk_un (by unfold oR; omega), pk_un (by unfold oC; omega), pk_un (by unfold oC; omega), pk_un (by unfold oC; omega), pk_un (by unfold oC; omega)]
theorem sd_jn : SmD f (jnF f c k) := ⟨jnF_low (by decide), jnF_low (by decide), fun j hj => jnF_low (by unfold oM; omega)⟩
theorem sd_low {i : Nat} {v : Int32} (hi : i = 5 ∨ i = 6) : SmD f (upd f i v) := ⟨pk_un (by omega), pk_un (by omega), fun j hj => pk_un (by unfold oM; omega)⟩
theorem D_set {w v : Int32} (h : InvD N f) (hs : isSV w v) : InvD N (upd f (5 + w.toNatClampNeg) v) := by
  obtain ⟨⟨s0, s1⟩, s2, s3⟩ := hs
  obtain ⟨k, hk, rfl⟩ := in_nI s0 s1 (by decide)
  rw [nI_clamp (by omega)] at s2 s3 ⊢
  rcases (show k = 0 ∨ k = 1 ∨ k = 2 by omega) with rfl | rfl | rfl
  · exact h.sm (sd_low (Or.inl rfl))
  · exact h.sm (sd_low (Or.inr rfl))
  · have s2 : (1 : Int32) ≤ v := s2
    have s3 : v ≤ 14 := s3
    obtain ⟨l, hl, rfl⟩ : ∃ l, l < 15 ∧ v = nI l := in_nI (Int32.le_trans (by decide) s2) (Int32.lt_of_le_of_lt s3 (by decide)) (by decide)
    obtain ⟨⟨d, hd, e0, hm⟩, -⟩ := h
    refine ⟨⟨d, hd, (pk_un (by decide)).trans e0, fun j hj => ?_⟩, l, by omega, pk_us⟩
    rw [pk_un (by unfold oM; omega)]
    exact hm j hj
theorem D_dr (h : InvD N f) : InvD N (drF f j) := by
  obtain ⟨⟨d, hd, e0, hm⟩, l, hl, e7⟩ := h
  have e : ∀ i, i ≠ 2 → i ≠ oM j 3 → i ≠ oM j 4 → drF f j i = f i := fun i a b c => by
    unfold drF
    rw [pk_un a, pk_un c, pk_un b]
  refine ⟨⟨d, hd, (e 0 (by decide) (by unfold oM; omega) (by unfold oM; omega)).trans e0, fun i hi => ?_⟩, l, hl, (e 7 (by decide) (by unfold oM; omega) (by unfold oM; omega)).trans e7⟩
  by_cases z : i = j
  · subst z
    right
    refine ⟨d, Nat.le_refl _, ?_⟩
    unfold drF
    rw [pk_un (by unfold oM; omega), pk_us, e0]
  · rw [e _ (by unfold oM; omega) (by unfold oM; omega) (by unfold oM; omega)]
    exact hm i hi
theorem D_ex {q : Int32 × Int32 × Int32 × Int32} (h : InvD N f) (h0 : exO f q = nI 0) : InvD (N + 30) (exF f q) := by
  obtain ⟨l, a, b, c⟩ := q
  unfold exO at h0
  unfold exF
  dsimp only at h0 ⊢
  by_cases l1 : l = nI 100
  · rw [if_pos l1]
    exact (D_dr h).le (by omega)
  rw [if_neg l1] at h0 ⊢
  by_cases l2 : l = nI 115
  · rw [if_pos l2]
    exact (h.sm sd_start).le (by omega)
  rw [if_neg l2] at h0 ⊢
  by_cases l3 : l = nI 114
  · rw [if_pos l3]
    exact (h.sm sd_adv).le (by omega)
  rw [if_neg l3] at h0 ⊢
  by_cases l4 : l = nI 116
  · rw [if_pos l4]
    exact (h.sm (sd_low (Or.inl rfl))).le (by omega)
  rw [if_neg l4] at h0 ⊢
  by_cases l5 : l = nI 106
  · rw [if_pos l5]
    exact (h.sm sd_jn).le (by omega)
  rw [if_neg l5] at h0 ⊢
  by_cases z : isDay a
  · obtain ⟨n, hn, rfl⟩ : ∃ n, n < 31 ∧ a = nI n := in_nI (Int32.le_trans (by decide) z.1) (Int32.lt_of_le_of_lt z.2 (by decide)) (by decide)
    rw [nI_clamp (by omega)]
    exact (passF_D h).le (by omega)
  · rw [if_neg z] at h0
    exact absurd h0 (by decide)
theorem D_rows {tx : Nat → Int32} {n : Nat} (h : InvD N f) : ∀ k, (∀ i, i < k → exO (rowsK f tx n i) (ordK tx n i) = nI 0) → InvD (N + 30 * k) (rowsK f tx n k)
  | 0, _ => h
  | k + 1, hk => by
    have ih := D_rows h k (fun i hi => hk i (by omega))
    exact (D_ex ih (hk k (by omega))).le (by omega)
/-! weights -/
theorem InvW.sm (h : InvW f) (h3 : g 3 = f 3) (hr : ∀ k, k < 10 → g (oR k) = f (oR k)) (hc : cnt g = cnt f) (hw : ∀ c, c < cnt f → wgF g c = wgF f c) : InvW g := by
  unfold InvW at h ⊢
  have e1 : rwF g = rwF f := sI_cong fun k hk => hr k hk
  have e2 : sI (wgF g) (cnt f) = sI (wgF f) (cnt f) := sI_cong fun c hc => hw c hc
  rw [h3, hc, h, e1, e2]
theorem wgF_same {c : Nat} (h : ∀ i, g (oC c i) = f (oC c i)) : wgF g c = wgF f c := by
  have en : ncv g c = ncv f c := by
    unfold ncv
    rw [h]
  unfold wgF
  rw [en]
  exact sI_cong fun k hk => h _
theorem InvW.out (h : InvW f) (hs : ∀ i, (i = 1 ∨ i = 3 ∨ 80 ≤ i) → g i = f i) : InvW g :=
  h.sm (hs 3 (by omega)) (fun k hk => hs _ (by unfold oR; omega)) (by unfold cnt; rw [hs 1 (by omega)]) (fun c hc => wgF_same fun i => hs _ (by unfold oC; omega))
theorem W_set {w v : Int32} (h : InvW f) (hs : isSV w v) : InvW (upd f (5 + w.toNatClampNeg) v) := by
  obtain ⟨k, hk, rfl⟩ := in_nI hs.1.1 hs.1.2 (by decide)
  rw [nI_clamp (by omega)]
  exact h.out (fun i hi => pk_un (by omega))
theorem W_dr (h : InvW f) (hj : j < 12) : InvW (drF f j) := h.out (fun i hi => by
  unfold drF
  rw [pk_un (by omega), pk_un (by unfold oM; omega), pk_un (by unfold oM; omega)])
theorem W_pass {n : Nat} (h : InvW f) : InvW (passF f n) := h.out (fun i hi => passF_out (by omega) (by omega) n)
theorem W_tr {w ax : Int32} (h : InvW f) (hk : k < 10) (h0 : f (oR k) = 0) : InvW (trF f k w ax) := by
  have e1 : trF f k w ax 1 = f 1 := trF_out (by unfold oR; omega) (by unfold oR; omega) (by decide)
  have ec : cnt (trF f k w ax) = cnt f := by unfold cnt; rw [e1]
  have eC : ∀ c i, trF f k w ax (oC c i) = f (oC c i) := fun c i => trF_out (by unfold oR oC; omega) (by unfold oR oC; omega) (by unfold oC; omega)
  have ek : trF f k w ax (oR k) = w := by
    unfold trF
    rw [pk_un (by unfold oR; omega), pk_un (by omega), pk_us]
  have e3 : trF f k w ax 3 = f 3 + w := by unfold trF; exact pk_us
  have er : rwF (trF f k w ax) = rwF f + w := sI_upd (i := k) hk (fun j hj => trF_out (by unfold oR; omega) (by unfold oR; omega) (by unfold oR; omega)) (by rw [ek, h0, Int32.zero_add])
  have e2 : sI (wgF (trF f k w ax)) (cnt f) = sI (wgF f) (cnt f) := sI_cong fun c hc => wgF_same (eC c)
  unfold InvW at h ⊢
  rw [e3, ec, er, e2, h]
  ac_rfl
theorem W_cv {x : Int32} (hI : InvB f) (h : InvW f) (h4 : cnt f < 4) : InvW (cvF f x) := by
  have ec := cvF_cnt (f := f) (g := x) h4
  have eC : ∀ c, c < cnt f → ∀ i, i < 16 → cvF f x (oC c i) = f (oC c i) := fun c hc i hi => cvF_out (by unfold oC; omega) (by unfold oC; omega)
  have eL : ∀ i, i ≠ 1 → i < 100 → cvF f x i = f i := fun i a b => cvF_out a (by omega)
  have er : rwF (cvF f x) = rwF f := sI_cong fun k hk => eL _ (by unfold oR; omega) (by unfold oR; omega)
  have e3 : wgF (cvF f x) (cnt f) = nI 0 := by
    unfold wgF
    rw [cvF_ncv]
    rfl
  unfold InvW at h ⊢
  rw [eL 3 (by decide) (by decide), ec, er, sI_succ, e3, add_nI0, h]
  congr 1
  refine (sI_cong fun c hc => ?_).symm
  have en : ncv (cvF f x) c = ncv f c := by
    unfold ncv
    rw [eC c hc 1 (by decide)]
  unfold wgF
  rw [en]
  refine sI_cong fun k hk => ?_
  show cvF f x (oC c (5 + 3 * k)) = f (oC c (5 + 3 * k))
  have := (hI.cv hc).2.2.1
  exact eC c hc _ (by omega)
theorem W_jn (hI : InvB f) (h : InvW f) (hc : c < cnt f) (hk : k < 10) (hn : ncv f c < 4) : InvW (jnF f c k) := by
  have h44 := hI.1.2
  have i1 := (hI.cv hc).2.1
  have ec := jnF_cnt (f := f) (c := c) (k := k) hn
  have er : jnF f c k (oR k) = nI 0 := by
    unfold jnF
    rw [pk_un (by omega), pk_us]
  have ero : ∀ j, j ≠ k → j < 10 → jnF f c k (oR j) = f (oR j) := fun j a b => jnF_out hn (by unfold oR; omega) (by unfold oR; omega) (by unfold oR; omega)
  have s1 : rwF f = sI (fun j => if j = k then nI 0 else f (oR j)) 10 + f (oR k) := sI_upd (i := k) hk (fun j hj => by rw [if_neg hj]) (by rw [if_pos rfl]; exact (Int32.zero_add _).symm)
  have s2 : rwF (jnF f c k) = sI (fun j => if j = k then nI 0 else f (oR j)) 10 := sI_cong fun j hj => by
    by_cases z : j = k
    · rw [if_pos z, z, er]
    · rw [if_neg z, ero j z hj]
  have w1 : wgF (jnF f c k) c = wgF f c + f (oR k) := by
    unfold wgF
    rw [jnF_ncv hk i1 hn, sI_succ]
    have t1 : sI (fun k_1 => (tkF (jnF f c k) c k_1).2.1) (ncv f c) = sI (fun k => (tkF f c k).2.1) (ncv f c) := sI_cong fun j hj => by
      show jnF f c k (oC c (5 + 3 * j)) = f (oC c (5 + 3 * j))
      exact jnF_c hk (by omega) (by omega) (by omega) (by omega)
    have t2 : (tkF (jnF f c k) c (ncv f c)).2.1 = f (oR k) := by
      show jnF f c k (oC c (5 + 3 * ncv f c)) = _
      unfold jnF
      rw [pk_un (by unfold oC oR; omega), pk_un (by unfold oC oR; omega)]
      unfold jn1
      rw [pk_un (by unfold oC; omega), pk_un (by unfold oC; omega), pk_us]
    rw [t1, t2]
  have w3 : sI (wgF (jnF f c k)) (cnt f) = sI (fun d => if d = c then wgF f c + f (oR k) else wgF f d) (cnt f) := sI_cong fun d hd => by
    by_cases z : d = c
    · rw [if_pos z, z, w1]
    · rw [if_neg z]
      have en : ncv (jnF f c k) d = ncv f d := by
        unfold ncv
        rw [jnF_d hn hk z (by decide)]
      have := (hI.cv hd).2.2.1
      unfold wgF
      rw [en]
      refine sI_cong fun j hj => ?_
      show jnF f c k (oC d (5 + 3 * j)) = f (oC d (5 + 3 * j))
      exact jnF_d hn hk z (by omega)
  have w2 : sI (wgF (jnF f c k)) (cnt f) = sI (wgF f) (cnt f) + f (oR k) := by
    rw [w3]
    exact sI_upd (i := c) hc (fun d hd => if_neg hd) (if_pos rfl)
  unfold InvW at h ⊢
  rw [show jnF f c k 3 = f 3 from jnF_low (by decide), ec, s2, w2, h, s1]
  ac_rfl
end LPURE4

